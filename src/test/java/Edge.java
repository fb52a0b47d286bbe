import java.util.function.LongSupplier;

/** What the tests of edges share: answers that are due, refusals that change nothing else, and houses to begin with. */
abstract class Edge {
  static final int NONE = -1, BAD = -2, NO = -3, FULL = -4;
  static final int NOT_SO_MANY = -5, BAD_ROW = -10;
  static final int LOW = Integer.MIN_VALUE, HIGH = Integer.MAX_VALUE;
  static final int KNOCKED = 1, FALLEN = 2, GONE = 3;
  private static final int BY_BAD = 0, BY_NO = 1, BY_FULL = 2;

  private static String test = "";
  private static int checks = 0, wrong = 0;

  /** A call of one number on an object. */
  interface Asked {
    long answer(IcicleEaves x, int v);
  }

  static void begin(String name) {
    test = name;
    checks = 0;
  }

  static int checksMade() { return checks; }

  static int wrongOnes() { return wrong; }

  static void failed(String why) {
    wrong++;
    System.out.println(test + ": " + why);
  }

  static void due(String what, long got, long want) {
    checks++;
    if (got != want) failed(what + " answered " + got + ", due is " + want);
  }

  // ---- what is refused, and what changes nothing

  static void bad(IcicleEaves x, String call, LongSupplier asked) { refused(x, call, asked, BAD, BY_BAD); }

  static void badAs(int answer, IcicleEaves x, String call, LongSupplier asked) { refused(x, call, asked, answer, BY_BAD); }

  static void no(IcicleEaves x, String call, LongSupplier asked) { refused(x, call, asked, NO, BY_NO); }

  static void full(IcicleEaves x, String call, LongSupplier asked) { refused(x, call, asked, FULL, BY_FULL); }

  private static void refused(IcicleEaves x, String call, LongSupplier asked, int answer, int reason) {
    int[] counted = {x.status(0), x.status(1), x.status(2)};
    counted[reason]++;
    unchanged(x, call, asked, answer, counted);
  }

  /** A call that is not refused and changes nothing, not even what status counts. */
  static void looks(IcicleEaves x, String call, LongSupplier asked, long want) {
    unchanged(x, call, asked, want, new int[] {x.status(0), x.status(1), x.status(2)});
  }

  private static void unchanged(IcicleEaves x, String call, LongSupplier asked, long want, int[] counted) {
    long before = x.digest();
    due(call, asked.getAsLong(), want);
    due(call + ": digest() behind it", x.digest(), before);
    for (int k = 0; k < 3; k++) due(call + ": status(" + k + ") behind it", x.status(k), counted[k]);
  }

  /** One less than the least, one more than the most, and what is farthest from them, each refused. */
  static void outside(IcicleEaves x, String call, int least, int most, Asked asked) {
    outsideAs(BAD, x, call, least, most, asked);
  }

  static void outsideAs(int answer, IcicleEaves x, String call, int least, int most, Asked asked) {
    for (int v : new int[] {least - 1, most + 1, LOW, HIGH}) {
      badAs(answer, x, call + " by " + v, () -> asked.answer(x, v));
    }
  }

  static void status(IcicleEaves x, int bad, int no, int full) {
    due("status(0)", x.status(0), bad);
    due("status(1)", x.status(1), no);
    due("status(2)", x.status(2), full);
  }

  // ---- houses

  static IcicleEaves make() { return new IcicleEaves(); }

  static IcicleEaves roofed(int w, int kind, int heat, int snow) {
    IcicleEaves x = make();
    x.house(w);
    x.roof(kind, heat, snow);
    return x;
  }

  /** 2 water in each of the first 30 hours. */
  static IcicleEaves steady() { return roofed(-1, 0, 3, 60); }

  /** No water comes, and none gets shorter. */
  static IcicleEaves frozen() { return roofed(-1, 0, 0, 60); }

  /** No water comes, and a plain one is shorter by 1 each hour. */
  static IcicleEaves thawing() { return roofed(1, 0, 0, 0); }

  /** 1 water in those hours alone whose number 8 divides. */
  static IcicleEaves rare() {
    IcicleEaves x = roofed(-2, 0, 2, 60);
    x.warm(0, -1);
    return x;
  }

  /** A plain icicle over place 0. */
  static int hang(IcicleEaves x, int l, int root) { return x.ice(0, 0, 0, l, root); }

  static int hang(IcicleEaves x, int l) { return hang(x, l, 40); }

  /** Three roofs, six icicles, and of all else something, none of it as at first. */
  static IcicleEaves crowded() {
    IcicleEaves x = roofed(-3, 0, 9, 60);
    x.warm(7, 4);
    x.roof(1, 5, 20);
    x.roof(4, 2, 7);
    for (int i = 0; i < 6; i++) x.ice(i % 3, i, i + 1, 3 + i, 30 + i);
    x.seen(0, 0, 10, 9);
    x.note(1, 2, -1, 4, 2);
    x.mark(2, 1, 0, 4, 0);
    x.knocks(5);
    x.hours(1);
    x.type('h');
    return x;
  }

  /** At an hour near the last, by -9, without roofs. */
  static IcicleEaves atHour(int hour) {
    IcicleEaves x = make();
    x.house(-9);
    for (int left = hour; left > 0; left -= 96) x.hours(Math.min(left, 96));
    return x;
  }

  static void typeAll(IcicleEaves x, String s) {
    x.clear();
    for (int k = 0; k < s.length(); k++) x.type(s.charAt(k));
  }

  static String times(int n, String s) { return s.repeat(n); }
}
