import java.lang.reflect.Method;
import java.lang.reflect.Modifier;
import java.util.ArrayList;
import java.util.Arrays;
import java.util.List;
import java.util.Map;
import java.util.Random;
import java.util.TreeMap;

/** Runs of calls by fixed seeds on the program and on ReferenceEaves: every answer must be the same. */
public final class RandomRuns {
  private static final int RUNS = 700, CALLS = 250;

  /** Of each call: the least and the most that each number is to be; wrong ones are mixed in. */
  private static final Map<String, int[]> BOUNDS = new TreeMap<>();
  static {
    String[] rows = {
      "house -9 9", "warm 0 7 -9 9", "roof 0 5 0 9 0 60", "ice 0 2 0 5 0 7 1 30 1 40", "type 0 127", "clear", "read",
      "hours 1 96", "snows 0 2 1 60", "heats 0 2 0 9", "knocks 0 5", "undo", "of 0 5 0 5", "more 0 5", "about 0 2 0 3",
      "warmth 0 7", "ahead 0 5 0 96 0 1", "fall 0 5", "first", "order 0 5", "path", "least 0 2", "peak 0 5 0 1",
      "most 1 4 -1 3", "seen 0 2 -9 9 0 60 0 60", "warms 0 2", "tell 0 2", "note 0 5 1 30 -9 9 0 20 -30 50",
      "mark 0 2 0 9 -9 9 0 60 0 60", "forget 0 2", "is 0 5", "look 0 5", "kinds 0 2", "ask 0 2", "sticks -1 6",
      "odds 0 5 0 6 0 10", "winters 0 999999 0 60", "part 0 1", "image 0 1", "from 0 1", "status 0 2", "count 0 11",
      "digest"};
    for (String row : rows) {
      String[] words = row.split(" ");
      BOUNDS.put(words[0], Arrays.stream(words).skip(1).mapToInt(Integer::parseInt).toArray());
    }
  }

  private final Random dice;
  private final IcicleEaves program = new IcicleEaves();
  private final ReferenceEaves reference = new ReferenceEaves();
  private final List<String> calls = new ArrayList<>();
  private boolean wrong = false;

  private RandomRuns(long seed) { dice = new Random(seed); }

  private static Method method(Class<?> c, String name) {
    for (Method m : c.getDeclaredMethods()) {
      if (m.getName().equals(name) && Modifier.isPublic(m.getModifiers())) return m;
    }
    throw new IllegalStateException(name);
  }

  private static final Map<String, Method> OF_PROGRAM = new TreeMap<>(), OF_REFERENCE = new TreeMap<>();

  private long call(String name, int... numbers) {
    Object[] boxed = Arrays.stream(numbers).boxed().toArray();
    try {
      Method p = OF_PROGRAM.computeIfAbsent(name, n -> method(IcicleEaves.class, n));
      Method r = OF_REFERENCE.computeIfAbsent(name, n -> method(ReferenceEaves.class, n));
      long got = ((Number) p.invoke(program, boxed)).longValue();
      long want = ((Number) r.invoke(reference, boxed)).longValue();
      calls.add(name + Arrays.toString(numbers) + " = " + got);
      if (got != want && !wrong) {
        wrong = true;
        System.out.println(String.join("\n", calls.subList(Math.max(0, calls.size() - 40), calls.size())));
        System.out.println("the last one should be " + want);
      }
      return got;
    } catch (ReflectiveOperationException e) {
      throw new IllegalStateException(name + Arrays.toString(numbers), e);
    }
  }

  private int from(int low, int high) { return low + dice.nextInt(high - low + 1); }

  private int number(int low, int high) {
    int way = dice.nextInt(60);
    if (way == 0) return low - 1;
    if (way == 1) return high + 1;
    if (way == 2) return dice.nextInt();
    if (way == 3) return low;
    if (way == 4) return high;
    return from(low, high);
  }

  private void anyCall(String name) {
    int[] b = BOUNDS.get(name);
    int[] v = new int[b.length / 2];
    for (int k = 0; k < v.length; k++) v[k] = number(b[2 * k], b[2 * k + 1]);
    if (name.equals("hours") && dice.nextInt(4) != 0) v[0] = from(1, 5);
    call(name, v);
  }

  /** Icicles last for a while only where it is cold at most hours and they get little water. */
  private void someHouse() {
    call("house", from(-7, 1));
    furnish();
  }

  /** Near the last hour, so that it is reached and looks go beyond it. */
  private void lateHouse() {
    call("house", -9);
    for (int k = 0; k < 104; k++) call("hours", 96);
    call("hours", from(1, 15));
    for (int h = 0; h < 8; h++) call("warm", h, from(-7, 1));
    furnish();
  }

  private void furnish() {
    for (int k = dice.nextInt(5); k > 0; k--) call("warm", from(0, 7), from(-6, 6));
    int roofs = from(1, 3);
    for (int r = 0; r < roofs; r++) call("roof", from(0, 5), from(0, 9), from(0, 60));
    for (int i = from(0, 6); i > 0; i--) {
      call("ice", from(0, roofs - 1), from(0, 5), from(0, 7), from(1, 25), from(5, 40));
    }
  }

  /** What fits a kind or a heat that might be, so that the sets are not all empty. */
  private void someRows() {
    int kind = from(0, 5), heat = from(0, 9), one = from(0, 2);
    for (int k = from(1, 3); k > 0; k--) {
      int w = from(-9, 9), s = from(0, 60), q = from(0, 20), l = from(1, 30);
      call("mark", one, heat, w, s, ReferenceEaves.ROOFS.get(kind).water(w, heat, s));
      call("note", one, l, w, q, ReferenceEaves.ICES.get(kind).more(l, w, q));
      int was = (int) call("about", one, 0);
      if (was >= 0) call("seen", one, w, s, ReferenceEaves.ROOFS.get(was).water(w, heat, s));
    }
    for (String name : List.of("warms", "tell", "is", "look", "kinds", "ask")) call(name, one);
  }

  private String someText() {
    StringBuilder s = new StringBuilder("house " + from(2, 10) + ";");
    for (int k = dice.nextInt(12); k > 0; k--) {
      switch (dice.nextInt(8)) {
        case 0 -> s.append("warm ").append(from(0, 7)).append(' ').append(from(0, 18)).append(" ;");
        case 1, 2, 3 -> s.append("roof ").append(from(0, 5)).append(' ').append(from(0, 9)).append("  ")
            .append(from(0, 60)).append(';');
        case 4 -> s.append(" hours ").append(from(1, 9)).append(';');
        default -> s.append("ice ").append(from(0, 1)).append(' ').append(from(0, 5)).append(' ').append(from(0, 7))
            .append(' ').append(from(1, 30)).append(' ').append(from(1, 40)).append("; ");
      }
    }
    for (int k = dice.nextInt(3); k > 0; k--) {
      String odd = "hwrice;;  0123456789AZ\t\0~";
      int at = dice.nextInt(s.length());
      switch (dice.nextInt(3)) {
        case 0 -> s.insert(at, odd.charAt(dice.nextInt(odd.length())));
        case 1 -> s.deleteCharAt(at);
        default -> s.setLength(Math.max(1, at));
      }
    }
    return s.toString();
  }

  private void typeText() {
    call("clear");
    String s = someText();
    for (int k = 0; k < s.length(); k++) call("type", s.charAt(k));
    call("read");
  }

  private boolean run() {
    List<String> names = new ArrayList<>(BOUNDS.keySet());
    List<String> rare = List.of("house", "clear", "read", "type", "warm", "hours");
    boolean late = dice.nextInt(12) == 0;
    if (late) {
      names.removeAll(List.of("house", "read"));
      lateHouse();
    } else if (dice.nextInt(8) != 0) someHouse();
    for (int k = 0; k < CALLS && !wrong; k++) {
      int way = late ? 2 + dice.nextInt(98) : dice.nextInt(100);
      if (way == 0) someHouse();
      else if (way == 1) typeText();
      else if (way <= 4) someRows();
      else {
        String name = names.get(dice.nextInt(names.size()));
        if (!rare.contains(name) || dice.nextInt(6) == 0) anyCall(name);
      }
      call("digest");
    }
    for (int k = 0; k < 3; k++) call("status", k);
    return wrong;
  }

  public static void main(String[] args) {
    int bad = 0;
    for (int seed = 1; seed <= RUNS && bad < 3; seed++) {
      if (new RandomRuns(seed).run()) {
        bad++;
        System.out.println("RandomRuns: seed " + seed + " is not as due");
      }
    }
    System.out.println(bad == 0 ? "RandomRuns: all answers are as due" : "RandomRuns: answers are not as due");
    if (bad != 0) System.exit(1);
  }
}
