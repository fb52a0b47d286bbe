import java.math.BigInteger;
import java.util.ArrayDeque;
import java.util.ArrayList;
import java.util.Collections;
import java.util.Comparator;
import java.util.HashMap;
import java.util.List;
import java.util.Map;
import java.util.TreeMap;
import java.util.function.IntBinaryOperator;
import java.util.function.IntUnaryOperator;
import java.util.regex.Matcher;
import java.util.regex.Pattern;

/**
 * The document once more, written apart from the program and in another way: states that never
 * change, kinds as classes under one another, plain searches. RandomRuns compares the two.
 */
final class ReferenceEaves {
  // ---- kinds, each under the one told

  static class PlainRoof { int water(int w, int e, int s) { return Math.min(s, Math.max(0, w + e)); } }
  static class Slate extends PlainRoof {
    int water(int w, int e, int s) { int p = super.water(w, e, s); return p != 0 ? Math.min(s, p + 2) : 0; }
  }
  static class Thatch extends PlainRoof { int water(int w, int e, int s) { return super.water(w, e, s) / 2; } }
  static class Tin extends Slate { int water(int w, int e, int s) { return w < -4 ? 0 : super.water(w, e, s); } }
  static class Mossy extends Thatch {
    int water(int w, int e, int s) { int t = super.water(w, e, s); return s % 2 == 1 ? Math.max(0, t - 1) : t; }
  }
  static class Steep extends PlainRoof {
    int water(int w, int e, int s) { return s > 40 ? s : super.water(w, e, s); }
  }
  static class PlainIce { int more(int l, int w, int q) { return w < 0 ? q : 0 - w; } }
  static class Fat extends PlainIce { int more(int l, int w, int q) { return super.more(l, w, q) / 2; } }
  static class Thin extends PlainIce {
    int more(int l, int w, int q) { int p = super.more(l, w, q); return p > 0 ? p + 1 : p; }
  }
  static class Clear extends Fat {
    int more(int l, int w, int q) { int f = super.more(l, w, q); return f > 0 && l > 20 ? 0 : f; }
  }
  static class Dirty extends PlainIce {
    int more(int l, int w, int q) { int p = super.more(l, w, q); return w > 0 ? p - 2 : p; }
  }
  static class Twisted extends Thin {
    int more(int l, int w, int q) { int t = super.more(l, w, q); return l % 5 == 0 ? t * 2 : t; }
  }
  static final List<PlainRoof> ROOFS =
      List.of(new PlainRoof(), new Slate(), new Thatch(), new Tin(), new Mossy(), new Steep());
  static final List<PlainIce> ICES =
      List.of(new PlainIce(), new Fat(), new Thin(), new Clear(), new Dirty(), new Twisted());

  // ---- states that never change

  record Roof(int kind, int heat, int snow) {
    Roof withSnow(int s) { return new Roof(kind, heat, s); }
    Roof withHeat(int e) { return new Roof(kind, e, snow); }
  }
  record Ice(int roof, int kind, int place, int len, int root, int lost) {
    Ice with(int l, int how) { return new Ice(roof, kind, place, l, root, how); }
  }
  record State(int hour, List<Integer> warm, List<Roof> roofs, List<Ice> ices) {
    State next(int warmer) {
      int h = hour + 1;
      int w = Math.min(9, warm.get(h % 8) + warmer);
      List<Roof> newRoofs = new ArrayList<>();
      List<Integer> waters = new ArrayList<>();
      for (Roof r : roofs) {
        int q = ROOFS.get(r.kind).water(w, r.heat, r.snow);
        waters.add(q);
        newRoofs.add(r.withSnow(r.snow - q));
      }
      List<Ice> newIces = new ArrayList<>();
      for (Ice i : ices) {
        if (i.lost != 0) { newIces.add(i); continue; }
        int l = i.len + ICES.get(i.kind).more(i.len, w, waters.get(i.roof));
        newIces.add(l <= 0 ? i.with(0, 3) : l > i.root ? i.with(l, 2) : i.with(l, 0));
      }
      return new State(h, warm, newRoofs, newIces);
    }
    State after(int n) { State s = this; for (int t = 0; t < n; t++) s = s.next(0); return s; }
    State withRoof(int r, Roof roof) {
      List<Roof> list = new ArrayList<>(roofs); list.set(r, roof); return new State(hour, warm, list, ices);
    }
    State withIce(int i, Ice ice) {
      List<Ice> list = new ArrayList<>(ices); list.set(i, ice); return new State(hour, warm, roofs, list);
    }
    State plusRoof(Roof roof) {
      List<Roof> list = new ArrayList<>(roofs); list.add(roof); return new State(hour, warm, list, ices);
    }
    State plusIce(Ice ice) {
      List<Ice> list = new ArrayList<>(ices); list.add(ice); return new State(hour, warm, roofs, list);
    }
    State withWarm(int h, int w) {
      List<Integer> list = new ArrayList<>(warm); list.set(h, w); return new State(hour, list, roofs, ices);
    }
    State goOn(int n) { State s = this; for (int t = 0; t < n && s.hour < 9999; t++) s = s.next(0); return s; }
    boolean falls(int i) { return ices.get(i).lost == 2; }
    boolean hangs(int i) { return ices.get(i).lost == 0; }
  }
  record All(State now, List<int[]> seen, List<int[]> notes, List<int[]> marks, List<State> past) {}

  static State fresh(int w) { return new State(0, Collections.nCopies(8, w), List.of(), List.of()); }

  private State now = fresh(-1);
  private List<int[]> seen = new ArrayList<>(), notes = new ArrayList<>(), marks = new ArrayList<>();
  private ArrayDeque<State> past = new ArrayDeque<>();
  private final Map<Integer, All> images = new HashMap<>();
  private String text = "";
  private BigInteger above = BigInteger.ZERO, below = BigInteger.ONE;
  private int bads, nos, fulls;

  private int bad() { bads++; return -2; }
  private int no() { nos++; return -3; }
  private int full() { fulls++; return -4; }
  private boolean noRoof(int r) { return r < 0 || r >= now.roofs.size(); }
  private boolean noIce(int i) { return i < 0 || i >= now.ices.size(); }
  private static boolean out(int v, int low, int high) { return v < low || v > high; }
  private void remember() { past.addLast(now); if (past.size() > 8) past.removeFirst(); }
  private void replace(State s) { now = s; seen.clear(); notes.clear(); marks.clear(); past.clear(); }

  // ---- a house

  public int house(int w) {
    if (out(w, -9, 9)) return bad();
    int had = now.ices.size();
    replace(fresh(w));
    return had;
  }
  public int warm(int h, int w) {
    if (out(h, 0, 7) || out(w, -9, 9)) return bad();
    now = now.withWarm(h, w); past.clear();
    return 1;
  }
  public int roof(int kind, int heat, int snow) {
    if (out(kind, 0, 5) || out(heat, 0, 9) || out(snow, 0, 60)) return bad();
    if (now.roofs.size() == 3) return full();
    now = now.plusRoof(new Roof(kind, heat, snow)); past.clear();
    return now.roofs.size() - 1;
  }
  public int ice(int r, int kind, int place, int l, int root) {
    if (noRoof(r) || out(kind, 0, 5) || out(place, 0, 7) || out(l, 1, 30) || out(root, 1, 40)) return bad();
    if (now.ices.size() == 6) return full();
    now = now.plusIce(new Ice(r, kind, place, l, root, 0)); past.clear();
    return now.ices.size() - 1;
  }
  public int type(int c) {
    if (out(c, 0, 127)) return bad();
    if (text.length() == 150) return full();
    text += (char) c;
    return text.length();
  }
  public int clear() { int n = text.length(); text = ""; return n; }

  private static final Pattern TOKEN = Pattern.compile(" *([a-z]+|[0-9]+|[^a-z0-9 ]|$)", Pattern.DOTALL);
  private static final Map<String, int[]> NUMBERS = Map.of("house", new int[] {0, 18},
      "warm", new int[] {0, 7, 0, 18}, "roof", new int[] {0, 5, 0, 9, 0, 60},
      "ice", new int[] {0, 2, 0, 5, 0, 7, 1, 30, 1, 40}, "hours", new int[] {1, 99});

  public int read() {
    Matcher m = TOKEN.matcher(text);
    List<String> tokens = new ArrayList<>();
    List<Integer> places = new ArrayList<>();
    while (m.find() && !m.group(1).isEmpty()) { tokens.add(m.group(1)); places.add(m.start(1)); }
    places.add(text.length());
    State s = null;
    int items = 0, t = 0;
    while (t < tokens.size() || items == 0) {
      String word = t < tokens.size() ? tokens.get(t) : "";
      if (!NUMBERS.containsKey(word) || word.equals("house") != (items == 0)) return -10 - places.get(t);
      if (word.equals("roof") && s.roofs.size() == 3) return -10 - places.get(t);
      if (word.equals("ice") && s.ices.size() == 6) return -10 - places.get(t);
      t++;
      int[] bounds = NUMBERS.get(word);
      int[] v = new int[bounds.length / 2];
      for (int k = 0; k < v.length; k++, t++) {
        if (t == tokens.size() || !tokens.get(t).matches("[0-9]{1,2}")) return -10 - places.get(t);
        v[k] = Integer.parseInt(tokens.get(t));
        if (out(v[k], bounds[2 * k], bounds[2 * k + 1])) return -10 - places.get(t);
        if (word.equals("ice") && k == 0 && v[0] >= s.roofs.size()) return -10 - places.get(t);
      }
      if (t == tokens.size() || !tokens.get(t).equals(";")) return -10 - places.get(t);
      t++;
      items++;
      s = switch (word) {
        case "house" -> fresh(v[0] - 9);
        case "warm" -> s.withWarm(v[0], v[1] - 9);
        case "roof" -> s.plusRoof(new Roof(v[0], v[1], v[2]));
        case "ice" -> s.plusIce(new Ice(v[0], v[1], v[2], v[3], v[4], 0));
        default -> s.goOn(v[0]);
      };
    }
    replace(s);
    return items;
  }

  // ---- hours

  public int hours(int n) {
    if (out(n, 1, 96)) return bad();
    remember();
    now = now.goOn(n);
    return (int) now.ices.stream().filter(i -> i.lost == 0).count();
  }
  public int snows(int r, int n) {
    if (noRoof(r) || out(n, 1, 60)) return bad();
    int s = now.roofs.get(r).snow;
    if (s == 60) return no();
    remember();
    now = now.withRoof(r, now.roofs.get(r).withSnow(Math.min(60, s + n)));
    return now.roofs.get(r).snow;
  }
  public int heats(int r, int e) {
    if (noRoof(r) || out(e, 0, 9)) return bad();
    int was = now.roofs.get(r).heat;
    if (was == e) return no();
    remember();
    now = now.withRoof(r, now.roofs.get(r).withHeat(e));
    return was;
  }
  public int knocks(int i) {
    if (noIce(i)) return bad();
    if (!now.hangs(i)) return no();
    remember();
    now = now.withIce(i, now.ices.get(i).with(now.ices.get(i).len, 1));
    return now.ices.get(i).len;
  }
  public int undo() {
    if (past.isEmpty()) return no();
    now = past.removeLast();
    return now.hour;
  }
  public int of(int i, int what) {
    if (noIce(i) || out(what, 0, 5)) return bad();
    Ice x = now.ices.get(i);
    return new int[] {x.roof, x.kind, x.place, x.len, x.root, x.lost}[what];
  }
  private int nextWarmth() { return now.warm.get((now.hour + 1) % 8); }
  private int nextWater(int r) {
    Roof x = now.roofs.get(r);
    return ROOFS.get(x.kind).water(nextWarmth(), x.heat, x.snow);
  }
  public int more(int i) {
    if (noIce(i)) { bad(); return -100; }
    Ice x = now.ices.get(i);
    return ICES.get(x.kind).more(x.len, nextWarmth(), nextWater(x.roof));
  }
  public int about(int r, int what) {
    if (noRoof(r) || out(what, 0, 3)) return bad();
    Roof x = now.roofs.get(r);
    return new int[] {x.kind, x.heat, x.snow, nextWater(r)}[what];
  }
  public int warmth(int h) { return out(h, 0, 7) ? bad() : now.warm.get(h) + 9; }

  // ---- what falls

  public int ahead(int i, int m, int what) {
    if (noIce(i) || out(m, 0, 96) || out(what, 0, 1)) return bad();
    Ice x = now.after(m).ices.get(i);
    return what == 0 ? x.len : x.lost;
  }
  private int fallOf(int i) {
    if (!now.hangs(i)) return -1;
    State s = now;
    for (int t = 1; t <= 96; t++) { s = s.next(0); if (s.falls(i)) return t; }
    return -1;
  }
  public int fall(int i) { return noIce(i) ? bad() : fallOf(i); }
  public int first() {
    int best = -1, when = 97;
    for (int i = 0; i < now.ices.size(); i++) {
      int f = fallOf(i);
      if (f > 0 && f < when) { best = i; when = f; }
    }
    return best;
  }
  public int order(int k) {
    if (k < 0) return bad();
    List<Integer> row = new ArrayList<>();
    Map<Integer, Integer> when = new HashMap<>();
    for (int i = 0; i < now.ices.size(); i++) {
      if (now.hangs(i)) { row.add(i); int f = fallOf(i); when.put(i, f < 0 ? 1000 : f); }
    }
    if (k >= row.size()) return no();
    row.sort(Comparator.comparing(when::get));
    return row.get(k);
  }
  public int path() {
    for (int b = 0; b <= 24; b++) {
      boolean hit = false;
      for (int p = 0; p < 8; p++) {
        State ahead = now.after(b + p), then = ahead.next(0);
        for (int i = 0; i < now.ices.size(); i++) {
          hit |= now.ices.get(i).place == p && ahead.hangs(i) && then.falls(i);
        }
      }
      if (!hit) return b;
    }
    return -1;
  }
  public int least(int r) {
    if (noRoof(r)) return bad();
    for (int e = 0; e <= 9; e++) {
      State s = now.withRoof(r, now.roofs.get(r).withHeat(e)).after(48);
      boolean any = false;
      for (int i = 0; i < now.ices.size(); i++) {
        any |= now.ices.get(i).roof == r && now.hangs(i) && s.falls(i);
      }
      if (!any) return e;
    }
    return -1;
  }
  public int peak(int i, int what) {
    if (noIce(i) || out(what, 0, 1)) return bad();
    if (!now.hangs(i)) return -1;
    int best = 0, at = -1;
    State s = now;
    for (int t = 0; t <= 48 && s.hangs(i); t++, s = s.next(0)) {
      if (s.ices.get(i).len > best) { best = s.ices.get(i).len; at = t; }
    }
    return what == 0 ? at : best;
  }
  /** All rows of knocks, with what each has together, in rising order. */
  private void rows(State s, int n, int[] row, int at, int sum, Map<Integer, int[]> firstBySum) {
    if (at == n) { firstBySum.putIfAbsent(sum, row.clone()); return; }
    for (int i = 0; i <= 6; i++) {
      row[at] = i;
      if (i == 6) rows(s.next(0), n, row, at + 1, sum, firstBySum);
      else if (i < s.ices.size() && s.hangs(i)) {
        int l = s.ices.get(i).len;
        rows(s.withIce(i, s.ices.get(i).with(l, 1)).next(0), n, row, at + 1, sum + l, firstBySum);
      }
    }
  }
  public int most(int n, int k) {
    if (out(n, 1, 4) || k < -1) { bad(); return -10; }
    if (k >= n) return -5;
    TreeMap<Integer, int[]> firstBySum = new TreeMap<>();
    rows(now, n, new int[n], 0, 0, firstBySum);
    return k == -1 ? firstBySum.lastKey() : firstBySum.lastEntry().getValue()[k];
  }

  // ---- how warm

  private int tellRow(List<int[]> list, int most, int... row) {
    if (list.size() == most) return full();
    list.add(row);
    return list.size();
  }
  public int seen(int r, int w, int s, int q) {
    if (noRoof(r) || out(w, -9, 9) || out(s, 0, 60) || out(q, 0, 60)) return bad();
    return tellRow(seen, 5, r, w, s, q);
  }
  public int note(int i, int l, int w, int q, int x) {
    if (noIce(i) || out(l, 1, 30) || out(w, -9, 9) || out(q, 0, 20) || out(x, -30, 50)) return bad();
    return tellRow(notes, 6, i, l, w, q, x);
  }
  public int mark(int r, int e, int w, int s, int q) {
    if (noRoof(r) || out(e, 0, 9) || out(w, -9, 9) || out(s, 0, 60) || out(q, 0, 60)) return bad();
    return tellRow(marks, 6, r, e, w, s, q);
  }
  public int forget(int what) {
    if (out(what, 0, 2)) return bad();
    List<int[]> list = List.of(seen, notes, marks).get(what);
    int n = list.size();
    list.clear();
    return n;
  }
  private int heatBits(int r) {
    int bits = 0;
    for (int e = 0; e <= 9; e++) {
      int heat = e;
      boolean all = seen.stream().filter(x -> x[0] == r)
          .allMatch(x -> ROOFS.get(now.roofs.get(r).kind).water(x[1], heat, x[2]) == x[3]);
      if (all) bits += 1 << e;
    }
    return bits;
  }
  private int iceBits(int i) {
    int bits = 0;
    for (int k = 0; k < 6; k++) {
      PlainIce kind = ICES.get(k);
      if (notes.stream().allMatch(x -> x[0] != i || kind.more(x[1], x[2], x[3]) == x[4])) bits += 1 << k;
    }
    return bits;
  }
  private int roofBits(int r) {
    int bits = 0;
    for (int k = 0; k < 6; k++) {
      PlainRoof kind = ROOFS.get(k);
      if (marks.stream().allMatch(x -> x[0] != r || kind.water(x[2], x[1], x[3]) == x[4])) bits += 1 << k;
    }
    return bits;
  }
  private static int group(int bits, IntUnaryOperator answer) {
    Map<Integer, Integer> sizes = new HashMap<>();
    for (int k = 0; k < 10; k++) if ((bits >> k & 1) == 1) sizes.merge(answer.applyAsInt(k), 1, Integer::sum);
    return Collections.max(sizes.values());
  }
  public int warms(int r) { return noRoof(r) ? bad() : heatBits(r); }
  public int tell(int r) {
    if (noRoof(r)) return bad();
    int bits = heatBits(r), best = -1, size = 100;
    if (bits == 0) return -1;
    Roof x = now.roofs.get(r);
    for (int v = 0; v <= 18; v++) {
      int w = v - 9, g = group(bits, e -> ROOFS.get(x.kind).water(w, e, x.snow));
      if (g < size) { size = g; best = v; }
    }
    return best;
  }
  public int is(int i) { return noIce(i) ? bad() : iceBits(i); }
  public int look(int i) {
    if (noIce(i)) return bad();
    int bits = iceBits(i), best = -1, size = 100;
    if (bits == 0) return -1;
    for (int v = 0; v <= 18; v++) for (int p = 0; p <= 20; p++) {
      int w = v - 9, q = p, g = group(bits, k -> ICES.get(k).more(now.ices.get(i).len, w, q));
      if (g < size) { size = g; best = 100 * v + q; }
    }
    return best;
  }
  public int kinds(int r) { return noRoof(r) ? bad() : roofBits(r); }
  public int ask(int r) {
    if (noRoof(r)) return bad();
    int bits = roofBits(r), best = -1, size = 100;
    if (bits == 0) return -1;
    for (int v = 0; v <= 18; v++) for (int p = 0; p <= 60; p++) {
      int w = v - 9, s = p, g = group(bits, k -> ROOFS.get(k).water(w, now.roofs.get(r).heat, s));
      if (g < size) { size = g; best = 100 * v + s; }
    }
    return best;
  }
  public int sticks(int k) {
    if (k < -1) { bad(); return -10; }
    State two = now.after(2), three = now.after(3);
    IntBinaryOperator one = (i, j) -> two.hangs(i) ? two.ices.get(i).len : -1;
    IntBinaryOperator other = (i, j) -> i != j && three.hangs(j) ? three.ices.get(j).len : -1;
    List<Integer> names = new ArrayList<>(), pairs = new ArrayList<>();
    for (int i = 0; i < now.ices.size(); i++) if (now.hangs(i)) names.add(i);
    for (int i : names) for (int j : names) {
      boolean rests = names.stream().noneMatch(x -> one.applyAsInt(x, j) > one.applyAsInt(i, j))
          && names.stream().noneMatch(x -> other.applyAsInt(i, x) > other.applyAsInt(i, j));
      if (rests) pairs.add(10 * i + j);
    }
    return k == -1 ? pairs.size() : k < pairs.size() ? pairs.get(k) : -5;
  }
  private BigInteger chance(State s, int i, int n, int c) {
    if (s.falls(i)) return BigInteger.TEN.pow(n);
    if (n == 0) return BigInteger.ZERO;
    return chance(s.next(3), i, n - 1, c).multiply(BigInteger.valueOf(c))
        .add(chance(s.next(0), i, n - 1, c).multiply(BigInteger.valueOf(10 - c)));
  }
  public int odds(int i, int n, int c) {
    if (noIce(i) || out(n, 0, 6) || out(c, 0, 10)) return bad();
    BigInteger top = now.hangs(i) ? chance(now, i, n, c) : BigInteger.ZERO;
    BigInteger bottom = BigInteger.TEN.pow(n), g = top.gcd(bottom);
    above = top.divide(g);
    below = bottom.divide(g);
    return 1;
  }
  public int winters(int seed, int n) {
    if (out(seed, 0, 999999) || out(n, 0, 60)) return bad();
    BigInteger x = BigInteger.valueOf(seed);
    State s = now;
    int fell = 0;
    for (int t = 0; t < n; t++) {
      x = x.multiply(BigInteger.valueOf(1103515245)).add(BigInteger.valueOf(12345)).mod(BigInteger.TWO.pow(31));
      int r = x.shiftRight(16).intValue() % 3, more = x.shiftRight(20).intValue() % 6;
      if (r < s.roofs.size()) s = s.withRoof(r, s.roofs.get(r).withSnow(Math.min(60, s.roofs.get(r).snow + more)));
      State then = s.next(0);
      for (int i = 0; i < s.ices.size(); i++) if (s.hangs(i) && then.falls(i)) fell++;
      s = then;
    }
    return fell;
  }

  // ---- what there is

  public long part(int what) { return what == 0 ? above.longValue() : what == 1 ? below.longValue() : bad(); }
  public int image(int i) {
    if (out(i, 0, 1)) return bad();
    images.put(i, new All(now, List.copyOf(seen), List.copyOf(notes), List.copyOf(marks), List.copyOf(past)));
    return 1;
  }
  public int from(int i) {
    if (out(i, 0, 1)) return bad();
    if (!images.containsKey(i)) return no();
    All a = images.get(i);
    now = a.now;
    seen = new ArrayList<>(a.seen);
    notes = new ArrayList<>(a.notes);
    marks = new ArrayList<>(a.marks);
    past = new ArrayDeque<>(a.past);
    return 1;
  }
  public int status(int what) {
    if (out(what, 0, 2)) { bad(); return -1; }
    return new int[] {bads, nos, fulls}[what];
  }
  private int lostBits(int how) {
    int bits = 0;
    for (int i = 0; i < now.ices.size(); i++) if (now.ices.get(i).lost == how) bits |= 1 << i;
    return bits;
  }
  public int count(int what) {
    if (out(what, 0, 11)) return bad();
    int snow = now.roofs.stream().mapToInt(Roof::snow).sum();
    return new int[] {now.roofs.size(), now.ices.size(), now.hour, lostBits(1), lostBits(2), lostBits(3), snow,
        seen.size(), notes.size(), marks.size(), past.size(), text.length()}[what];
  }
  public long digest() {
    List<Long> all = new ArrayList<>();
    for (int k = 0; k < 12; k++) all.add((long) count(k));
    for (int h = 0; h < 8; h++) all.add((long) warmth(h));
    for (int r = 0; r < now.roofs.size(); r++) for (int k = 0; k < 3; k++) all.add((long) about(r, k));
    for (int i = 0; i < now.ices.size(); i++) for (int k = 0; k < 6; k++) all.add((long) of(i, k));
    for (List<int[]> list : List.of(seen, notes, marks)) for (int[] row : list) for (int v : row) all.add((long) v);
    all.add(above.longValue());
    all.add(below.longValue());
    long h = 1831;
    for (long v : all) h = 31 * h + v;
    return h;
  }
}
