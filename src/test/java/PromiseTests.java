/** Of each promise of the document: ordinary inputs, the edges that it names, wrong inputs; answers worked out by hand. */
public final class PromiseTests {
  private static final int NONE = -1, BAD = -2, NO = -3, FULL = -4;
  private static final int LOW = Integer.MIN_VALUE, HIGH = Integer.MAX_VALUE;
  private static int wrong = 0;

  private static void due(int promise, String what, long got, long want) {
    if (got != want) {
      wrong++;
      System.out.println("promise " + promise + ": " + what + " answered " + got + ", due is " + want);
    }
  }

  private static IcicleEaves make() { return new IcicleEaves(); }

  /** A house of one warmth with one roof. */
  private static IcicleEaves roofed(int w, int kind, int heat, int snow) {
    IcicleEaves x = make();
    x.house(w);
    x.roof(kind, heat, snow);
    return x;
  }

  /** 2 water an hour by -1, for 30 hours; ice() puts icicles on it. */
  private static IcicleEaves steady() { return roofed(-1, 0, 3, 60); }

  /** One water each 8th hour alone, those whose number 8 divides. */
  private static IcicleEaves rare() {
    IcicleEaves x = roofed(-2, 0, 2, 60);
    x.warm(0, -1);
    return x;
  }

  private static void typeAll(IcicleEaves x, String s) {
    x.clear();
    for (int k = 0; k < s.length(); k++) x.type(s.charAt(k));
  }

  private static void status(int promise, String what, IcicleEaves x, int bad, int no, int full) {
    due(promise, what + ": status(0)", x.status(0), bad);
    due(promise, what + ": status(1)", x.status(1), no);
    due(promise, what + ": status(2)", x.status(2), full);
  }

  private static void newObject() {
    IcicleEaves x = make();
    for (int k = 0; k < 12; k++) due(1, "count " + k, x.count(k), 0);
    for (int h = 0; h < 8; h++) due(1, "warmth " + h, x.warmth(h), 8);
    due(1, "above", x.part(0), 0);
    due(1, "below", x.part(1), 1);
    due(1, "no image 0", x.from(0), NO);
    due(1, "no image 1", x.from(1), NO);
    status(1, "new but for these", x, 0, 2, 0);
  }

  private static void house() {
    IcicleEaves x = make();
    for (int w : new int[] {-10, 10, LOW, HIGH}) due(2, "house " + w, x.house(w), BAD);
    due(2, "refused: warmth stays", x.warmth(0), 8);
    due(2, "house -9", x.house(-9), 0);
    for (int h = 0; h < 8; h++) due(2, "warmth " + h, x.warmth(h), 0);
    due(2, "house 9", x.house(9), 0);
    due(2, "warmth", x.warmth(7), 18);
    x.house(-1);
    x.roof(0, 3, 60);
    x.ice(0, 0, 0, 5, 8);
    x.ice(0, 0, 0, 5, 40);
    x.odds(0, 2, 4);
    x.type('h');
    x.image(1);
    x.seen(0, 0, 0, 0);
    x.note(0, 1, 0, 0, 0);
    x.mark(0, 0, 0, 0, 0);
    x.hours(3);
    due(2, "a refused house changes nothing", x.house(10), BAD);
    due(2, "hour", x.count(2), 3);
    due(2, "how many icicles there were, lost too", x.house(0), 2);
    for (int k = 0; k < 11; k++) due(2, "count " + k, x.count(k), 0);
    due(2, "the text stays", x.count(11), 1);
    due(2, "the fraction stays", x.part(0) * 100 + x.part(1), 925);
    status(2, "status stays", x, 5, 0, 0);
    due(2, "images stay", x.from(1), 1);
    due(2, "icicles of the image", x.count(1), 2);
  }

  private static void warm() {
    IcicleEaves x = make();
    int[][] bad = {{-1, 0}, {8, 0}, {0, -10}, {0, 10}, {LOW, 0}, {0, HIGH}};
    for (int[] b : bad) due(3, "warm " + b[0] + " " + b[1], x.warm(b[0], b[1]), BAD);
    due(3, "warm 0 -9", x.warm(0, -9), 1);
    due(3, "warm 7 9", x.warm(7, 9), 1);
    due(3, "warmth 0", x.warmth(0), 0);
    due(3, "warmth 1", x.warmth(1), 8);
    due(3, "warmth 7", x.warmth(7), 18);
    x.hours(1);
    x.warm(0, 99);
    due(3, "a refused one leaves what may be undone", x.count(10), 1);
    x.warm(0, -9);
    due(3, "behind it none may be undone", x.undo(), NO);
    IcicleEaves y = roofed(-1, 0, 0, 60);
    y.warm(1, 5);
    due(3, "the hour 1 is the 1st of the 8", y.about(0, 3), 5);
    y.hours(1);
    due(3, "the hour 2", y.about(0, 3), 0);
    y.hours(6);
    y.warm(0, 4);
    due(3, "the hour 8 is the 0th", y.about(0, 3), 4);
    y.hours(1);
    due(3, "the hour 9 is the 1st", y.about(0, 3), 5);
  }

  private static void roof() {
    IcicleEaves x = make();
    int[][] bad = {{-1, 0, 0}, {6, 0, 0}, {0, -1, 0}, {0, 10, 0}, {0, 0, -1}, {0, 0, 61}, {HIGH, LOW, HIGH}};
    for (int[] b : bad) due(4, "roof " + b[0] + " " + b[1] + " " + b[2], x.roof(b[0], b[1], b[2]), BAD);
    due(4, "first", x.roof(5, 9, 60), 0);
    x.hours(1);
    due(4, "second", x.roof(0, 0, 0), 1);
    due(4, "behind it none may be undone", x.count(10), 0);
    due(4, "third", x.roof(4, 3, 2), 2);
    x.hours(1);
    due(4, "fourth", x.roof(0, 0, 0), FULL);
    due(4, "bad ahead of full", x.roof(6, 0, 0), BAD);
    due(4, "a refused one leaves what may be undone", x.count(10), 1);
    due(4, "there are", x.count(0), 3);
    due(4, "kind", x.about(2, 0), 4);
    due(4, "heat", x.about(2, 1), 3);
    due(4, "snow", x.about(1, 2), 0);
    status(4, "roof", x, 8, 0, 1);
  }

  private static void ice() {
    IcicleEaves x = make();
    due(5, "no roof", x.ice(0, 0, 0, 1, 1), BAD);
    x.roof(0, 0, 0);
    int[][] bad = {{-1, 0, 0, 1, 1}, {1, 0, 0, 1, 1}, {0, -1, 0, 1, 1}, {0, 6, 0, 1, 1}, {0, 0, -1, 1, 1},
        {0, 0, 8, 1, 1}, {0, 0, 0, 0, 1}, {0, 0, 0, 31, 1}, {0, 0, 0, 1, 0}, {0, 0, 0, 1, 41}, {HIGH, 0, 0, 1, 1}};
    for (int k = 0; k < bad.length; k++) {
      int[] b = bad[k];
      due(5, "bad " + k, x.ice(b[0], b[1], b[2], b[3], b[4]), BAD);
    }
    due(5, "least", x.ice(0, 0, 0, 1, 1), 0);
    x.hours(1);
    due(5, "most", x.ice(0, 5, 7, 30, 40), 1);
    due(5, "behind it none may be undone", x.count(10), 0);
    due(5, "longer than the root holds", x.ice(0, 1, 2, 30, 1), 2);
    for (int i = 3; i < 6; i++) due(5, "icicle " + i, x.ice(0, 1, 2, 3, 4), i);
    x.hours(1);
    due(5, "seventh", x.ice(0, 1, 2, 3, 4), FULL);
    due(5, "bad ahead of full", x.ice(0, 1, 2, 3, 0), BAD);
    due(5, "a refused one leaves what may be undone", x.count(10), 1);
    due(5, "there are", x.count(1), 6);
    due(5, "the long one fell in an hour", x.count(4), 4);
    status(5, "ice", x, 13, 0, 1);
  }

  private static void type() {
    IcicleEaves x = make();
    for (int c : new int[] {-1, 128, LOW, HIGH}) due(6, "type " + c, x.type(c), BAD);
    due(6, "type 0", x.type(0), 1);
    due(6, "type 127", x.type(127), 2);
    for (int k = 3; k <= 150; k++) due(6, "byte " + k, x.type('a'), k);
    due(6, "151st", x.type('a'), FULL);
    due(6, "bad ahead of full", x.type(128), BAD);
    due(6, "bytes", x.count(11), 150);
    status(6, "type", x, 5, 0, 1);
  }

  private static void clear() {
    IcicleEaves x = make();
    due(7, "empty", x.clear(), 0);
    typeAll(x, "house 9;");
    due(7, "clear", x.clear(), 8);
    due(7, "bytes", x.count(11), 0);
    due(7, "read what was cleared", x.read(), -10);
    typeAll(x, "house 3;");
    due(7, "read what came behind", x.read(), 1);
    due(7, "clear", x.clear(), 8);
    due(7, "the house stays", x.warmth(0), 3);
    typeAll(x, "house 99");
    typeAll(x, "house 9");
    due(7, "of the figures ahead nothing is left", x.read(), -17);
    typeAll(x, "housex");
    typeAll(x, "house");
    due(7, "of the letters ahead nothing is left", x.read(), -15);
  }

  private static void reads(String s, int want) {
    IcicleEaves x = make();
    x.house(5);
    x.hours(2);
    typeAll(x, s);
    long before = x.digest();
    due(8, "read '" + s + "'", x.read(), want);
    if (want < 0) due(8, "all stays behind '" + s + "'", x.digest(), before);
    due(8, "the text stays: '" + s + "'", x.count(11), s.length());
    status(8, "'" + s + "'", x, 0, 0, 0);
  }

  private static String times(String s, int n) {
    StringBuilder all = new StringBuilder();
    for (int k = 0; k < n; k++) all.append(s);
    return all.toString();
  }

  private static void readFaults() {
    reads("", -10);
    reads("   ", -13);
    reads("h", -10);
    reads("house", -15);
    reads("house 9", -17);
    reads("house 9  ", -19);
    reads("house ;", -16);
    reads("house 19;", -16);
    reads("house 9 9;", -18);
    reads("house 009;", -16);
    reads(" house x;", -17);
    reads("House 9;", -10);
    reads("houses 9;", -10);
    reads("hous 9;", -10);
    reads("housez 9;", -10);
    reads("xouse 9;", -10);
    reads("houze 9;", -10);
    reads(";house 9;", -10);
    reads("9;", -10);
    reads("warm 1 1;house 9;", -10);
    reads("house 9;house 9;", -18);
    reads("house 9;;", -18);
    reads("house 9;\t", -18);
    reads("house 9;\0", -18);
    reads("house 9,", -17);
    reads("house 9;rooff 1 1 1;", -18);
    reads("house 9; warm", -23);
    reads("house 9;warm 8 0;", -23);
    reads("house 9;warm 7 19;", -25);
    reads("house 9;warm 7 123;", -25);
    reads("house 9;roof 6 0 0;", -23);
    reads("house 9;roof 5 10 0;", -25);
    reads("house 9;roof 5 9 61;", -27);
    reads("house 9;roof 5 9 60 1;", -30);
    reads("house 9;ice 0 0 0 1 1;", -22);
    reads("house 9;roof 0 0 0;ice 1 0 0 1 1;", -33);
    reads("house 9;roof 0 0 0;ice 0 6 0 1 1;", -35);
    reads("house 9;roof 0 0 0;ice 0 0 8 1 1;", -37);
    reads("house 9;roof 0 0 0;ice 0 0 0 0 1;", -39);
    reads("house 9;roof 0 0 0;ice 0 0 0 31 1;", -39);
    reads("house 9;roof 0 0 0;ice 0 0 0 1 0;", -41);
    reads("house 9;roof 0 0 0;ice 0 0 0 1 41;", -41);
    reads("house 9;hours 0;", -24);
    reads("house 9;hours 100;", -24);
    reads("house 9;hours hours;", -24);
    reads("house 9;" + times("roof 0 0 0;", 4), -10 - 8 - 33);
    reads("house 9;roof 0 0 0;" + times("ice 0 0 0 1 1;", 7), -10 - 19 - 84);
  }

  private static void read() {
    readFaults();
    reads("house 9;", 1);
    reads("  house   09  ;  ", 1);
    reads("house18;warm7 0;roof5 9 60;", 3);
    reads("house 0;warm 0 0;warm 7 18;hours 1;", 4);
    reads("house 0;warm 3 18;roof 3 9 60;ice 0 5 7 30 40;hours 99;", 5);
    reads("house 9;" + times("roof 0 0 0;", 3) + times("ice 2 0 0 1 1;", 6), 10);
    reads("house 0;" + times("hours 99;", 15), 16);
    IcicleEaves x = steady();
    x.ice(0, 0, 0, 5, 8);
    x.odds(0, 2, 4);
    x.seen(0, 0, 0, 0);
    x.note(0, 1, 0, 0, 0);
    x.mark(0, 0, 0, 0, 0);
    x.image(0);
    x.hours(1);
    x.hours(0);
    typeAll(x, "house 8;roof 0 3 60;hours 2;ice 0 0 4 1 40;hours 1;warm 4 18;");
    due(8, "items", x.read(), 6);
    due(8, "hour", x.count(2), 3);
    due(8, "snow", x.about(0, 2), 54);
    due(8, "long", x.of(0, 3), 3);
    due(8, "place", x.of(0, 2), 4);
    due(8, "root", x.of(0, 4), 40);
    due(8, "warmth 4", x.warmth(4), 18);
    due(8, "warmth 3", x.warmth(3), 8);
    for (int k = 7; k <= 10; k++) due(8, "count " + k, x.count(k), 0);
    due(8, "nothing to undo", x.undo(), NO);
    due(8, "the fraction stays", x.part(0) * 100 + x.part(1), 925);
    status(8, "status stays", x, 1, 1, 0);
    typeAll(x, "house 0;roof 4 3 20;roof 5 6 7;ice 1 2 3 4 5;");
    due(8, "items", x.read(), 4);
    int[] roofs = {4, 3, 20, 5, 6, 7};
    for (int k = 0; k < 6; k++) due(8, "roof " + k, x.about(k / 3, k % 3), roofs[k]);
    int[] told = {1, 2, 3, 4, 5, 0};
    for (int k = 0; k < 6; k++) due(8, "ice " + k, x.of(0, k), told[k]);
    due(8, "images stay", x.from(0), 1);
    due(8, "the hour of the image", x.count(2), 0);
  }

  private static void hours() {
    IcicleEaves x = make();
    for (int n : new int[] {0, 97, -1, LOW, HIGH}) due(9, "hours " + n, x.hours(n), BAD);
    due(9, "refused: none may be undone", x.count(10), 0);
    x = roofed(-1, 0, 5, 6);
    x.ice(0, 0, 0, 3, 8);
    x.ice(0, 0, 0, 3, 7);
    x.ice(0, 0, 0, 3, 6);
    due(9, "one more than the root falls, as much does not", x.hours(1), 2);
    due(9, "long as it fell", x.of(2, 3), 7);
    due(9, "fallen", x.of(2, 5), 2);
    due(9, "snow is less by the water", x.about(0, 2), 2);
    due(9, "the last snow", x.hours(1), 0);
    due(9, "long", x.of(0, 3), 9);
    due(9, "one lost grows no more", x.of(2, 3), 7);
    due(9, "no snow below 0", x.about(0, 2), 0);
    x = roofed(3, 0, 0, 0);
    x.ice(0, 0, 0, 3, 9);
    x.ice(0, 0, 0, 2, 9);
    x.ice(0, 0, 0, 4, 9);
    x.ice(0, 0, 0, 12, 9);
    x.ice(0, 0, 0, 13, 9);
    due(9, "one of 4, one of 12", x.hours(1), 2);
    due(9, "gone at 0 and below", x.count(5), 3);
    due(9, "long 0", x.of(1, 3), 0);
    due(9, "fallen though shorter", x.of(4, 3) * 10 + x.of(4, 5), 102);
    due(9, "within the root again", x.of(3, 3), 9);
    lastHour();
  }

  private static void lastHour() {
    IcicleEaves x = roofed(-9, 0, 0, 60);
    x.ice(0, 0, 0, 5, 8);
    for (int k = 0; k < 104; k++) x.hours(96);
    due(9, "hour", x.count(2), 9984);
    x.hours(14);
    x.warm(7, 9);
    x.warm(0, 3);
    due(9, "one goes by of 96, by the 7th warmth", x.hours(96), 0);
    due(9, "9999 at most", x.count(2), 9999);
    due(9, "snow", x.about(0, 2), 51);
    due(16, "the hour beyond 9999 is looked at", x.about(0, 3), 3);
    due(9, "none goes by", x.hours(1), 0);
    due(9, "snow stays", x.about(0, 2), 51);
    due(9, "it may be undone", x.count(10), 2);
    due(13, "undone", x.undo(), 9999);
    due(13, "undone", x.undo(), 9998);
    x.hours(1);
    x.ice(0, 0, 0, 30, 28);
    due(18, "beyond 9999", x.ahead(1, 1, 0), 27);
    due(19, "beyond 9999", x.fall(1), NONE);
  }

  private static void snows() {
    IcicleEaves x = roofed(-1, 0, 0, 50);
    int[][] bad = {{-1, 1}, {1, 1}, {0, 0}, {0, 61}, {HIGH, 1}, {0, LOW}};
    for (int[] b : bad) due(10, "snows " + b[0] + " " + b[1], x.snows(b[0], b[1]), BAD);
    due(10, "1", x.snows(0, 1), 51);
    due(10, "60 at most", x.snows(0, 60), 60);
    due(10, "there are 60", x.snows(0, 1), NO);
    due(10, "bad ahead of no", x.snows(0, 0), BAD);
    due(10, "about", x.about(0, 2), 60);
    due(10, "may be undone", x.count(10), 2);
    status(10, "snows", x, 7, 1, 0);
    due(10, "the hour", x.undo(), 0);
    due(10, "undone", x.about(0, 2), 51);
  }

  private static void heats() {
    IcicleEaves x = roofed(-1, 0, 4, 50);
    int[][] bad = {{-1, 1}, {1, 1}, {0, -1}, {0, 10}, {HIGH, 1}, {0, LOW}};
    for (int[] b : bad) due(11, "heats " + b[0] + " " + b[1], x.heats(b[0], b[1]), BAD);
    due(11, "it is so", x.heats(0, 4), NO);
    due(11, "9", x.heats(0, 9), 4);
    due(11, "0", x.heats(0, 0), 9);
    due(11, "about", x.about(0, 1), 0);
    due(11, "may be undone", x.count(10), 2);
    status(11, "heats", x, 6, 1, 0);
    x.undo();
    due(11, "undone", x.about(0, 1), 9);
  }

  private static void knocks() {
    IcicleEaves x = steady();
    x.ice(0, 0, 0, 7, 40);
    x.ice(0, 0, 0, 7, 8);
    for (int i : new int[] {-1, 2, LOW, HIGH}) due(12, "knocks " + i, x.knocks(i), BAD);
    due(12, "how long", x.knocks(0), 7);
    due(12, "lost", x.of(0, 5), 1);
    due(12, "again", x.knocks(0), NO);
    due(12, "hours", x.hours(1), 0);
    due(12, "long as it was", x.of(0, 3), 7);
    due(12, "one fallen", x.knocks(1), NO);
    due(12, "may be undone", x.count(10), 2);
    status(12, "knocks", x, 4, 2, 0);
    x.undo();
    x.undo();
    due(12, "undone", x.of(0, 5), 0);
  }

  private static void undo() {
    IcicleEaves x = steady();
    x.ice(0, 0, 0, 7, 10);
    due(13, "none", x.undo(), NO);
    long start = x.digest();
    x.hours(2);
    due(13, "hours", x.undo(), 0);
    due(13, "as ahead of it", x.digest(), start);
    x.hours(1);
    x.heats(0, 9);
    x.snows(0, 2);
    x.knocks(0);
    x.hours(5);
    due(13, "five", x.count(10), 5);
    due(13, "to the hour 1", x.undo(), 1);
    due(13, "knocked off", x.of(0, 5), 1);
    x.undo();
    due(13, "hangs", x.of(0, 5), 0);
    due(13, "long", x.of(0, 3), 9);
    x.undo();
    due(13, "snow", x.about(0, 2), 58);
    x.undo();
    due(13, "heat", x.about(0, 1), 3);
    due(13, "last", x.undo(), 0);
    due(13, "all", x.digest(), start);
    due(13, "no more", x.undo(), NO);
    for (int k = 0; k < 9; k++) x.hours(1);
    due(13, "8 at most", x.count(10), 8);
    for (int k = 8; k >= 1; k--) due(13, "back", x.undo(), k);
    due(13, "the first one is not to be undone", x.undo(), NO);
    due(13, "the hour 1", x.count(2), 1);
    status(13, "undo", x, 0, 3, 0);
  }

  private static void of() {
    IcicleEaves x = steady();
    x.roof(0, 0, 0);
    x.ice(1, 2, 3, 4, 5);
    x.ice(0, 5, 7, 30, 40);
    int[][] bad = {{-1, 0}, {2, 0}, {0, -1}, {0, 6}, {HIGH, 0}, {0, LOW}};
    for (int[] b : bad) due(14, "of " + b[0] + " " + b[1], x.of(b[0], b[1]), BAD);
    int[] want = {1, 2, 3, 4, 5, 0};
    for (int k = 0; k < 6; k++) due(14, "of 0 " + k, x.of(0, k), want[k]);
    due(14, "the other", x.of(1, 3), 30);
    status(14, "of", x, 6, 0, 0);
  }

  /** By how much an icicle is longer by -1 .. 9, heat e (q is e less 1 by -1). */
  private static void more(String what, int kind, int l, int w, int e, int want) {
    IcicleEaves x = roofed(w, 0, e, 60);
    x.ice(0, kind, 0, l, 40);
    due(15, what, x.more(0), want);
    long before = x.digest();
    x.more(0);
    due(15, what + ": nothing changes", x.digest(), before);
    x.hours(1);
    due(9, what + ": long behind an hour", x.of(0, 3), Math.max(0, l + want));
  }

  private static void more() {
    more("plain, cold", 0, 10, -1, 5, 4);
    more("plain, 0", 0, 10, 0, 5, 0);
    more("plain, warm", 0, 10, 3, 5, -3);
    more("fat, cold", 1, 10, -1, 6, 2);
    more("fat, warm", 1, 10, 5, 6, -2);
    more("thin, cold", 2, 10, -1, 5, 5);
    more("thin, no water", 2, 10, -1, 1, 0);
    more("thin, warm", 2, 10, 3, 5, -3);
    more("clear, 20", 3, 20, -1, 6, 2);
    more("clear, 21", 3, 21, -1, 6, 0);
    more("clear, 21, warm", 3, 21, 5, 6, -2);
    more("dirty, cold", 4, 10, -1, 5, 4);
    more("dirty, 0", 4, 10, 0, 5, 0);
    more("dirty, warm", 4, 10, 1, 5, -3);
    more("twisted, 10", 5, 10, -1, 5, 10);
    more("twisted, 11", 5, 11, -1, 5, 5);
    more("twisted, 5, warm", 5, 5, 3, 5, -6);
    more("twisted, 6, warm", 5, 6, 3, 5, -3);
    IcicleEaves x = steady();
    for (int i : new int[] {-1, 0, LOW, HIGH}) due(15, "more " + i, x.more(i), -100);
    status(15, "more", x, 4, 0, 0);
    x.ice(0, 0, 0, 5, 40);
    x.knocks(0);
    due(15, "lost or not", x.more(0), 2);
    x.warm(1, 4);
    x.warm(2, -2);
    due(15, "by the warmth of the next hour", x.more(0), -4);
    x.hours(1);
    due(15, "by the warmth of the one behind it", x.more(0), 1);
  }

  private static void water(String what, int kind, int w, int e, int s, int want) {
    IcicleEaves x = roofed(w, kind, e, s);
    due(16, what, x.about(0, 3), want);
    x.hours(1);
    due(9, what + ": snow behind an hour", x.about(0, 2), s - want);
  }

  private static void about() {
    water("plain", 0, -4, 6, 40, 2);
    water("plain, 0 at least", 0, -9, 3, 40, 0);
    water("plain, s at most", 0, 9, 9, 10, 10);
    water("slate", 1, -4, 6, 40, 4);
    water("slate, s at most", 1, -4, 6, 3, 3);
    water("slate, plain is 0", 1, -6, 6, 40, 0);
    water("thatch", 2, -1, 6, 40, 2);
    water("tin", 3, -4, 6, 40, 4);
    water("tin below -4", 3, -5, 7, 40, 0);
    water("mossy, even", 4, -1, 7, 40, 3);
    water("mossy, odd", 4, -1, 7, 41, 2);
    water("mossy, 0 at least", 4, -1, 2, 41, 0);
    water("steep, 40", 5, -4, 6, 40, 2);
    water("steep, 41", 5, -4, 6, 41, 41);
    water("steep by -9", 5, -9, 0, 60, 60);
    IcicleEaves x = roofed(-1, 1, 4, 50);
    int[][] bad = {{-1, 0}, {1, 0}, {0, -1}, {0, 4}, {HIGH, 0}, {0, LOW}};
    for (int[] b : bad) due(16, "about " + b[0] + " " + b[1], x.about(b[0], b[1]), BAD);
    int[] want = {1, 4, 50, 5};
    for (int k = 0; k < 4; k++) due(16, "about 0 " + k, x.about(0, k), want[k]);
    status(16, "about", x, 6, 0, 0);
  }

  private static void warmth() {
    IcicleEaves x = make();
    for (int h : new int[] {-1, 8, LOW, HIGH}) due(17, "warmth " + h, x.warmth(h), BAD);
    x.warm(7, 9);
    x.warm(0, -9);
    due(17, "0", x.warmth(0), 0);
    due(17, "7", x.warmth(7), 18);
    due(17, "3", x.warmth(3), 8);
    status(17, "warmth", x, 4, 0, 0);
  }

  private static void ahead() {
    IcicleEaves x = steady();
    x.ice(0, 0, 0, 1, 10);
    int[][] bad = {{-1, 0, 0}, {1, 0, 0}, {0, -1, 0}, {0, 97, 0}, {0, 0, -1}, {0, 0, 2}, {HIGH, LOW, HIGH}};
    for (int[] b : bad) due(18, "ahead " + b[0] + " " + b[1] + " " + b[2], x.ahead(b[0], b[1], b[2]), BAD);
    long before = x.digest();
    due(18, "0", x.ahead(0, 0, 0), 1);
    due(18, "4", x.ahead(0, 4, 0), 9);
    due(18, "4, lost", x.ahead(0, 4, 1), 0);
    due(18, "5", x.ahead(0, 5, 0), 11);
    due(18, "5, lost", x.ahead(0, 5, 1), 2);
    due(18, "96", x.ahead(0, 96, 0), 11);
    due(18, "nothing changes", x.digest(), before);
    x.knocks(0);
    due(18, "knocked off", x.ahead(0, 96, 0) * 10 + x.ahead(0, 96, 1), 11);
    x = roofed(1, 0, 0, 0);
    x.ice(0, 0, 0, 3, 9);
    due(18, "gone", x.ahead(0, 3, 1), 3);
    due(18, "not yet", x.ahead(0, 2, 1), 0);
    x = rare();
    x.ice(0, 0, 0, 1, 40);
    due(18, "96 hours", x.ahead(0, 96, 0), 13);
    due(18, "95 hours", x.ahead(0, 95, 0), 12);
    status(18, "ahead", x, 0, 0, 0);
  }

  private static void fall() {
    IcicleEaves x = steady();
    for (int i : new int[] {-1, 0, LOW, HIGH}) due(19, "fall " + i, x.fall(i), BAD);
    x.ice(0, 0, 0, 1, 10);
    x.ice(0, 0, 0, 10, 9);
    x.ice(0, 0, 0, 1, 9);
    long before = x.digest();
    due(19, "5", x.fall(0), 5);
    due(19, "1", x.fall(1), 1);
    due(19, "nothing changes", x.digest(), before);
    x.hours(1);
    due(19, "later", x.fall(0), 4);
    due(19, "fallen already", x.fall(1), NONE);
    x.knocks(2);
    due(19, "knocked off", x.fall(2), NONE);
    x = rare();
    x.ice(0, 0, 0, 1, 12);
    x.ice(0, 0, 0, 1, 13);
    due(19, "96", x.fall(0), 96);
    due(19, "beyond 96", x.fall(1), NONE);
    status(19, "fall", x, 0, 0, 0);
  }

  private static void first() {
    IcicleEaves x = make();
    due(20, "no icicles", x.first(), NONE);
    x = steady();
    x.roof(0, 0, 0);
    x.ice(1, 0, 0, 1, 10);
    due(20, "none falls", x.first(), NONE);
    x.ice(0, 0, 0, 1, 10);
    x.ice(0, 0, 0, 3, 10);
    x.ice(0, 0, 0, 4, 10);
    x.ice(0, 0, 0, 10, 10);
    due(20, "first", x.first(), 4);
    x.knocks(4);
    due(20, "of like ones the least", x.first(), 2);
    x.hours(4);
    due(20, "those fallen are none", x.first(), 1);
    x.hours(1);
    due(20, "none is left", x.first(), NONE);
    x.house(-1);
    x.roof(0, 3, 60);
    x.ice(0, 0, 0, 1, 10);
    x.ice(0, 0, 0, 1, 12);
    due(20, "the 0th", x.first(), 0);
    status(20, "first", x, 0, 0, 0);
  }

  private static void order() {
    IcicleEaves x = steady();
    x.roof(0, 0, 0);
    x.ice(1, 0, 0, 1, 10);
    x.ice(0, 0, 0, 1, 10);
    x.ice(1, 0, 0, 1, 10);
    x.ice(0, 0, 0, 4, 10);
    x.ice(0, 0, 0, 3, 10);
    x.ice(0, 0, 0, 9, 10);
    int[] want = {5, 3, 4, 1, 0, 2};
    for (int k = 0; k < 6; k++) due(21, "order " + k, x.order(k), want[k]);
    due(21, "not so many", x.order(6), NO);
    due(21, "not so many", x.order(HIGH), NO);
    due(21, "below 0", x.order(-1), BAD);
    due(21, "below 0", x.order(LOW), BAD);
    x.knocks(3);
    x.hours(1);
    int[] left = {4, 1, 0, 2};
    for (int k = 0; k < 4; k++) due(21, "those left, " + k, x.order(k), left[k]);
    due(21, "not so many are left", x.order(4), NO);
    status(21, "order", x, 2, 3, 0);
  }

  private static void path() {
    IcicleEaves x = make();
    due(22, "no icicles", x.path(), 0);
    x = steady();
    x.ice(0, 0, 0, 1, 10);
    due(22, "falls at 5 over 0: who sets out at 4 is hit", x.path(), 0);
    x.ice(0, 0, 4, 1, 10);
    due(22, "at 5 over 4: who sets out at 0 is hit", x.path(), 1);
    x.ice(0, 0, 3, 1, 10);
    x.ice(0, 0, 2, 1, 10);
    x.ice(0, 0, 0, 1, 2);
    due(22, "0 .. 2 are hit", x.path(), 3);
    x.ice(0, 0, 1, 1, 10);
    due(22, "0 .. 4 are hit", x.path(), 5);
    x.knocks(2);
    due(22, "knocked off: 1 is free", x.path(), 1);
    x.undo();
    x.hours(1);
    due(22, "an hour later 0 .. 3 are hit", x.path(), 4);
    status(22, "path", x, 0, 0, 0);
    x = steady();
    x.ice(0, 0, 7, 1, 16);
    due(22, "at 8 over 7", x.path(), 1);
  }

  private static void least() {
    IcicleEaves x = make();
    for (int r : new int[] {-1, 0, LOW, HIGH}) due(23, "least " + r, x.least(r), BAD);
    x = steady();
    x.roof(5, 0, 60);
    due(23, "no icicles", x.least(0), 0);
    x.ice(0, 0, 0, 1, 10);
    due(23, "by heat 0 none falls", x.least(0), 0);
    due(23, "none on the other", x.least(1), 0);
    x.ice(1, 0, 0, 1, 40);
    due(23, "all snow comes by any heat", x.least(1), NONE);
    due(23, "of the own roof alone", x.least(0), 0);
    x.knocks(1);
    due(23, "one lost does not count", x.least(1), 0);
    x.undo();
    x.hours(1);
    due(23, "one fallen does not count", x.least(1), 0);
    due(23, "heat stays", x.about(0, 1), 3);
    status(23, "least", x, 0, 0, 0);
    x = roofed(-1, 5, 0, 60);
    x.ice(0, 0, 0, 1, 40);
    long before = x.digest();
    due(23, "the 0th falls by any heat", x.least(0), NONE);
    due(23, "nothing changes", x.digest(), before);
  }

  private static void peak() {
    IcicleEaves x = steady();
    x.ice(0, 0, 0, 1, 10);
    int[][] bad = {{-1, 0}, {1, 0}, {0, -1}, {0, 2}, {HIGH, 0}, {0, LOW}};
    for (int[] b : bad) due(24, "peak " + b[0] + " " + b[1], x.peak(b[0], b[1]), BAD);
    due(24, "when, ahead of the fall", x.peak(0, 0), 4);
    due(24, "how long", x.peak(0, 1), 9);
    x.knocks(0);
    due(24, "lost", x.peak(0, 0), NONE);
    due(24, "lost", x.peak(0, 1), NONE);
    due(24, "bad ahead of none", x.peak(0, 2), BAD);
    status(24, "peak", x, 7, 0, 0);
    x = roofed(0, 0, 0, 0);
    x.ice(0, 0, 0, 6, 10);
    x.ice(0, 0, 0, 30, 10);
    due(24, "of like ones the least", x.peak(0, 0), 0);
    due(24, "as it is, though it falls then", x.peak(1, 1), 30);
    x = rare();
    x.ice(0, 0, 0, 1, 40);
    due(24, "48 at most", x.peak(0, 0), 48);
    due(24, "how long by then", x.peak(0, 1), 7);
    x.hours(1);
    due(24, "an hour later", x.peak(0, 0), 47);
    x.hours(6);
    due(24, "in the 49th it would be longer", x.peak(0, 0), 41);
  }

  private static void most() {
    IcicleEaves x = make();
    int[][] bad = {{0, 0}, {5, 0}, {1, -2}, {LOW, 0}, {HIGH, HIGH}, {4, LOW}};
    for (int[] b : bad) due(25, "most " + b[0] + " " + b[1], x.most(b[0], b[1]), -10);
    status(25, "most", x, 6, 0, 0);
    due(25, "no icicles", x.most(4, NONE), 0);
    due(25, "none is knocked off", x.most(4, 3), 6);
    due(25, "not so many", x.most(4, 4), -5);
    due(25, "not so many", x.most(1, HIGH), -5);
    status(25, "-5 is none of them", x, 6, 0, 0);
    x = steady();
    x.ice(0, 0, 0, 5, 40);
    x.ice(0, 0, 0, 3, 4);
    long before = x.digest();
    due(25, "1 hour", x.most(1, NONE), 5);
    due(25, "1 hour, 0", x.most(1, 0), 0);
    due(25, "2 hours", x.most(2, NONE), 10);
    due(25, "2 hours, 0", x.most(2, 0), 1);
    due(25, "2 hours, 1", x.most(2, 1), 0);
    due(25, "3 hours", x.most(3, NONE), 12);
    due(25, "3 hours, 0", x.most(3, 0), 1);
    due(25, "3 hours, 1", x.most(3, 1), 6);
    due(25, "3 hours, 2", x.most(3, 2), 0);
    due(25, "3 hours, 3", x.most(3, 3), -5);
    due(25, "4 hours", x.most(4, NONE), 14);
    due(25, "nothing changes", x.digest(), before);
    x.knocks(1);
    due(25, "one lost is none", x.most(2, NONE), 7);
    x = roofed(0, 0, 0, 0);
    x.ice(0, 0, 0, 6, 10);
    x.ice(0, 0, 0, 6, 10);
    due(25, "each once", x.most(3, NONE), 12);
    due(25, "the first row, 0", x.most(3, 0), 0);
    due(25, "the first row, 1", x.most(3, 1), 1);
    due(25, "the first row, 2", x.most(3, 2), 6);
  }

  private static void seen() {
    IcicleEaves x = roofed(-1, 0, 3, 60);
    int[][] bad = {{-1, 0, 0, 0}, {1, 0, 0, 0}, {0, -10, 0, 0}, {0, 10, 0, 0}, {0, 0, -1, 0}, {0, 0, 61, 0},
        {0, 0, 0, -1}, {0, 0, 0, 61}, {HIGH, LOW, HIGH, LOW}};
    for (int k = 0; k < bad.length; k++) {
      due(26, "bad " + k, x.seen(bad[k][0], bad[k][1], bad[k][2], bad[k][3]), BAD);
    }
    due(26, "1", x.seen(0, -9, 0, 0), 1);
    due(26, "2", x.seen(0, 9, 60, 60), 2);
    for (int k = 3; k <= 5; k++) due(26, "seen " + k, x.seen(0, 1, 2, 3), k);
    due(26, "full", x.seen(0, 1, 2, 3), FULL);
    due(26, "bad ahead of full", x.seen(0, 1, 2, 61), BAD);
    due(26, "count", x.count(7), 5);
    status(26, "seen", x, 10, 0, 1);
  }

  private static void warms() {
    IcicleEaves x = make();
    for (int r : new int[] {-1, 0, LOW, HIGH}) due(27, "warms " + r, x.warms(r), BAD);
    x = steady();
    x.roof(4, 7, 17);
    due(27, "none seen", x.warms(0), 1023);
    x.seen(0, 9, 5, 5);
    due(27, "all the snow came", x.warms(0), 1023);
    x.seen(0, -2, 60, 0);
    due(27, "0 .. 2", x.warms(0), 7);
    x.seen(0, -1, 60, 1);
    due(27, "2", x.warms(0), 4);
    due(27, "of the other none", x.warms(1), 1023);
    x.seen(1, -2, 21, 2);
    due(27, "mossy: 8, 9", x.warms(1), 768);
    x.seen(0, 0, 60, 9);
    due(27, "no heat", x.warms(0), 0);
    x.snows(1, 1);
    due(27, "snow now does not count", x.warms(1), 768);
  }

  private static void tell() {
    IcicleEaves x = make();
    for (int r : new int[] {-1, 0, LOW, HIGH}) due(28, "tell " + r, x.tell(r), BAD);
    status(28, "tell", x, 4, 0, 0);
    x = steady();
    x.roof(4, 7, 17);
    x.roof(0, 5, 0);
    due(28, "all apart by 0", x.tell(0), 9);
    due(28, "never apart", x.tell(2), 0);
    x.seen(1, -2, 21, 2);
    due(28, "8 and 9 apart by -5", x.tell(1), 4);
    x.seen(0, -2, 60, 0);
    due(28, "0 .. 2 apart by 0", x.tell(0), 9);
    x.seen(0, -1, 60, 1);
    due(28, "2 alone", x.tell(0), 0);
    x.seen(0, 0, 60, 9);
    due(28, "no heat", x.tell(0), NONE);
    x.forget(0);
    x.seen(0, -2, 60, 0);
    x.hours(29);
    due(28, "0 .. 2, snow being 2: by 0", x.tell(0), 9);
    x.hours(1);
    due(28, "snow being 0: never apart", x.tell(0), 0);
  }

  private static void note() {
    IcicleEaves x = steady();
    due(29, "no icicle", x.note(0, 1, 0, 0, 0), BAD);
    x.ice(0, 0, 0, 7, 40);
    int[][] bad = {{-1, 1, 0, 0, 0}, {1, 1, 0, 0, 0}, {0, 0, 0, 0, 0}, {0, 31, 0, 0, 0}, {0, 1, -10, 0, 0},
        {0, 1, 10, 0, 0}, {0, 1, 0, -1, 0}, {0, 1, 0, 21, 0}, {0, 1, 0, 0, -31}, {0, 1, 0, 0, 51}};
    for (int k = 0; k < bad.length; k++) {
      int[] b = bad[k];
      due(29, "bad " + k, x.note(b[0], b[1], b[2], b[3], b[4]), BAD);
    }
    due(29, "1", x.note(0, 1, -9, 0, -30), 1);
    due(29, "2", x.note(0, 30, 9, 20, 50), 2);
    for (int k = 3; k <= 6; k++) due(29, "note " + k, x.note(0, 1, 2, 3, 4), k);
    due(29, "full", x.note(0, 1, 2, 3, 4), FULL);
    due(29, "bad ahead of full", x.note(0, 0, 2, 3, 4), BAD);
    due(29, "count", x.count(8), 6);
    status(29, "note", x, 12, 0, 1);
  }

  private static void mark() {
    IcicleEaves x = make();
    due(30, "no roof", x.mark(0, 1, 0, 0, 0), BAD);
    x.roof(0, 0, 0);
    int[][] bad = {{-1, 1, 0, 0, 0}, {1, 1, 0, 0, 0}, {0, -1, 0, 0, 0}, {0, 10, 0, 0, 0}, {0, 1, -10, 0, 0},
        {0, 1, 10, 0, 0}, {0, 1, 0, -1, 0}, {0, 1, 0, 61, 0}, {0, 1, 0, 0, -1}, {0, 1, 0, 0, 61}};
    for (int k = 0; k < bad.length; k++) {
      int[] b = bad[k];
      due(30, "bad " + k, x.mark(b[0], b[1], b[2], b[3], b[4]), BAD);
    }
    due(30, "1", x.mark(0, 0, -9, 0, 0), 1);
    due(30, "2", x.mark(0, 9, 9, 60, 60), 2);
    for (int k = 3; k <= 6; k++) due(30, "mark " + k, x.mark(0, 1, 2, 3, 4), k);
    due(30, "full", x.mark(0, 1, 2, 3, 4), FULL);
    due(30, "bad ahead of full", x.mark(0, 10, 2, 3, 4), BAD);
    due(30, "count", x.count(9), 6);
    status(30, "mark", x, 12, 0, 1);
  }

  private static void forget() {
    IcicleEaves x = steady();
    x.ice(0, 0, 0, 7, 40);
    x.hours(1);
    for (int what : new int[] {-1, 3, LOW, HIGH}) due(31, "forget " + what, x.forget(what), BAD);
    x.seen(0, 0, 0, 0);
    for (int k = 0; k < 2; k++) x.note(0, 1, 0, 0, 0);
    for (int k = 0; k < 3; k++) x.mark(0, 0, 0, 0, 0);
    due(31, "notes", x.forget(1), 2);
    due(31, "what stays", x.count(7) * 100 + x.count(8) * 10 + x.count(9), 103);
    due(31, "marks", x.forget(2), 3);
    due(31, "seen", x.forget(0), 1);
    due(31, "none", x.forget(0) + x.forget(1) + x.forget(2), 0);
    due(31, "may be undone as ahead", x.count(10), 1);
    due(31, "from the first again", x.seen(0, 0, 0, 0), 1);
    status(31, "forget", x, 4, 0, 0);
  }

  private static void is() {
    IcicleEaves x = steady();
    for (int i : new int[] {-1, 0, LOW, HIGH}) due(32, "is " + i, x.is(i), BAD);
    x.ice(0, 0, 0, 7, 40);
    x.ice(0, 0, 0, 7, 40);
    due(32, "no notes", x.is(0), 63);
    x.note(0, 7, -1, 4, 4);
    due(32, "plain, dirty", x.is(0), 17);
    due(32, "of the other none", x.is(1), 63);
    x.note(0, 7, 1, 4, -3);
    due(32, "dirty", x.is(0), 16);
    x.note(1, 7, -1, 4, 5);
    due(32, "thin, twisted", x.is(1), 36);
    x.note(1, 10, -1, 4, 10);
    due(32, "twisted", x.is(1), 32);
    x.note(1, 10, -1, 4, 9);
    due(32, "no kind", x.is(1), 0);
    x.forget(1);
    x.note(0, 20, -1, 5, 2);
    due(32, "fat, clear", x.is(0), 10);
    x.note(0, 21, -1, 5, 0);
    due(32, "clear", x.is(0), 8);
  }

  private static void look() {
    IcicleEaves x = steady();
    for (int i : new int[] {-1, 0, LOW, HIGH}) due(33, "look " + i, x.look(i), BAD);
    status(33, "look", x, 4, 0, 0);
    x.ice(0, 0, 0, 7, 40);
    x.ice(0, 0, 0, 20, 40);
    x.ice(0, 0, 0, 21, 40);
    due(33, "pairs by -9, 1", x.look(0), 1);
    x.note(0, 7, -1, 4, 4);
    due(33, "plain, dirty apart by 1", x.look(0), 1000);
    x.note(1, 7, -1, 4, 2);
    due(33, "fat, clear never apart at 20", x.look(1), 0);
    x.note(2, 7, -1, 4, 2);
    due(33, "fat, clear apart at 21 by 2", x.look(2), 2);
    x.note(0, 7, -1, 4, 5);
    due(33, "no kind", x.look(0), NONE);
    x.forget(1);
    x.note(0, 7, -1, 4, 5);
    due(33, "thin, twisted never apart at 7", x.look(0), 0);
    x.note(1, 7, -1, 4, 5);
    due(33, "thin, twisted apart at 20", x.look(1), 1);
    x.note(1, 5, -1, 4, 5);
    due(33, "thin alone", x.look(1), 0);
    x = roofed(9, 0, 0, 0);
    x.ice(0, 0, 0, 1, 1);
    x.note(0, 7, -1, 4, 5);
    x.hours(1);
    due(33, "one gone: 5 divides 0", x.look(0), 1);
  }

  private static void kinds() {
    IcicleEaves x = make();
    for (int r : new int[] {-1, 0, LOW, HIGH}) due(34, "kinds " + r, x.kinds(r), BAD);
    x.roof(0, 0, 0);
    x.roof(0, 0, 0);
    due(34, "no marks", x.kinds(0), 63);
    x.mark(0, 5, 0, 60, 7);
    due(34, "slate, tin", x.kinds(0), 10);
    due(34, "of the other none", x.kinds(1), 63);
    x.mark(0, 9, -5, 60, 0);
    due(34, "tin", x.kinds(0), 8);
    x.mark(1, 5, 0, 40, 5);
    due(34, "plain, steep", x.kinds(1), 33);
    x.mark(1, 5, 0, 41, 5);
    due(34, "plain", x.kinds(1), 1);
    x.mark(1, 5, 0, 41, 6);
    due(34, "no kind", x.kinds(1), 0);
    x.forget(2);
    x.mark(0, 6, 0, 40, 3);
    due(34, "thatch, mossy", x.kinds(0), 20);
    x.mark(0, 6, 0, 41, 2);
    due(34, "mossy", x.kinds(0), 16);
  }

  private static void ask() {
    IcicleEaves x = make();
    for (int r : new int[] {-1, 0, LOW, HIGH}) due(35, "ask " + r, x.ask(r), BAD);
    status(35, "ask", x, 4, 0, 0);
    x.roof(0, 9, 0);
    x.roof(0, 4, 0);
    x.roof(1, 2, 9);
    due(35, "pairs by -1, 2", x.ask(2), 802);
    x.mark(0, 5, 0, 60, 7);
    due(35, "slate, tin apart by -8, 1", x.ask(0), 101);
    x.mark(1, 5, 0, 60, 7);
    due(35, "slate, tin never apart by heat 4", x.ask(1), 0);
    x.mark(2, 5, 0, 40, 5);
    due(35, "plain, steep apart by 41", x.ask(2), 41);
    x.mark(2, 5, 0, 41, 5);
    due(35, "plain alone", x.ask(2), 0);
    x.mark(2, 5, 0, 41, 6);
    due(35, "no kind", x.ask(2), NONE);
  }

  private static void sticks() {
    IcicleEaves x = make();
    due(36, "bad", x.sticks(-2), -10);
    due(36, "bad", x.sticks(LOW), -10);
    due(36, "no icicles", x.sticks(NONE), 0);
    due(36, "not so many", x.sticks(0), -5);
    due(36, "not so many", x.sticks(HIGH), -5);
    status(36, "sticks", x, 2, 0, 0);
    x = steady();
    x.ice(0, 0, 0, 5, 40);
    x.ice(0, 0, 0, 3, 40);
    due(36, "the longer one, the other one", x.sticks(NONE), 1);
    due(36, "0 and 1", x.sticks(0), 1);
    due(36, "no more", x.sticks(1), -5);
    x.ice(0, 0, 0, 5, 40);
    long before = x.digest();
    due(36, "two like ones", x.sticks(NONE), 2);
    due(36, "0 and 2", x.sticks(0), 2);
    due(36, "2 and 0", x.sticks(1), 20);
    due(36, "nothing changes", x.digest(), before);
    x.knocks(0);
    due(36, "one lost is not named", x.sticks(0), 21);
    x.knocks(2);
    due(36, "one is left", x.sticks(NONE), 1);
    due(36, "for both", x.sticks(0), 11);
    x = steady();
    x.ice(0, 0, 0, 5, 10);
    x.ice(0, 0, 0, 3, 40);
    x.ice(0, 0, 0, 4, 40);
    due(36, "the longest behind 2 hours falls in the 3rd", x.sticks(0), 2);
    due(36, "one", x.sticks(NONE), 1);
    x = steady();
    x.ice(0, 0, 0, 5, 6);
    x.ice(0, 0, 0, 3, 4);
    due(36, "both fall at once: all pairs rest", x.sticks(NONE), 4);
    due(36, "the last", x.sticks(3), 11);
    x = steady();
    x.ice(0, 0, 0, 3, 8);
    x.ice(0, 0, 0, 5, 6);
    due(36, "of one that has nothing either is as good", x.sticks(NONE), 2);
    due(36, "both at 0", x.sticks(0), 0);
  }

  private static void fraction(String what, IcicleEaves x, int i, int n, int c, long above, long below) {
    due(37, what, x.odds(i, n, c), 1);
    due(39, what + ": above", x.part(0), above);
    due(39, what + ": below", x.part(1), below);
  }

  private static void odds() {
    IcicleEaves x = steady();
    x.ice(0, 0, 0, 5, 8);
    int[][] bad = {{-1, 0, 0}, {1, 0, 0}, {0, -1, 0}, {0, 7, 0}, {0, 0, -1}, {0, 0, 11}, {HIGH, LOW, HIGH}};
    for (int[] b : bad) due(37, "odds " + b[0] + " " + b[1] + " " + b[2], x.odds(b[0], b[1], b[2]), BAD);
    status(37, "odds", x, 7, 0, 0);
    fraction("two cold hours", x, 0, 2, 4, 9, 25);
    fraction("the first two cold ones, or the last", x, 0, 3, 4, 9, 25);
    fraction("no hours", x, 0, 0, 4, 0, 1);
    fraction("one hour", x, 0, 1, 0, 0, 1);
    fraction("none warmer", x, 0, 6, 0, 1, 1);
    fraction("all warmer", x, 0, 6, 10, 0, 1);
    fraction("by 5 of 10", x, 0, 2, 5, 1, 4);
    long before = x.about(0, 2) * 100 + x.of(0, 3);
    fraction("by 9 of 10", x, 0, 2, 9, 1, 100);
    due(37, "a refused one leaves it", x.odds(0, 7, 0), BAD);
    due(39, "below", x.part(1), 100);
    due(37, "nothing else changes", x.about(0, 2) * 100 + x.of(0, 3), before);
    x.knocks(0);
    fraction("lost", x, 0, 6, 0, 0, 1);
    x.undo();
    x.hours(2);
    fraction("fallen ahead of them", x, 0, 6, 0, 0, 1);
    x = roofed(8, 0, 0, 0);
    x.ice(0, 0, 0, 20, 10);
    fraction("9 at most", x, 0, 1, 5, 1, 1);
    x = roofed(-4, 0, 5, 60);
    x.ice(0, 0, 0, 5, 8);
    fraction("more water by a warmer hour", x, 0, 1, 3, 3, 10);
    fraction("either of two hours", x, 0, 2, 3, 51, 100);
    fraction("any of six", x, 0, 6, 3, 1, 1);
    fraction("any of three", x, 0, 3, 3, 657, 1000);
  }

  private static void winters() {
    IcicleEaves x = make();
    int[][] bad = {{-1, 0}, {1000000, 0}, {0, -1}, {0, 61}, {HIGH, 0}, {0, LOW}};
    for (int[] b : bad) due(38, "winters " + b[0] + " " + b[1], x.winters(b[0], b[1]), BAD);
    status(38, "winters", x, 6, 0, 0);
    due(38, "no roofs", x.winters(999999, 60), 0);
    x = roofed(-1, 0, 9, 0);
    x.roof(0, 9, 0);
    x.roof(0, 9, 0);
    x.ice(0, 0, 0, 1, 3);
    x.ice(1, 0, 0, 1, 2);
    x.ice(2, 0, 0, 1, 1);
    long before = x.digest();
    // By the seed 0 snow falls so: 0: 0, 0: 3, 1: 0, 1: 2, 0: 2, 1: 1, 1: 0, 1: 3, 2: 1.
    int[] want = {0, 0, 1, 1, 2, 2, 2, 2, 2, 3};
    for (int n = 0; n < want.length; n++) due(38, "winters 0 " + n, x.winters(0, n), want[n]);
    due(38, "nothing changes", x.digest(), before);
    due(38, "the seed 999999: 2 on 1, 5 on 2", x.winters(999999, 1) * 10 + x.winters(999999, 2), 12);
    x.knocks(0);
    due(38, "one lost does not fall", x.winters(0, 9), 2);
    for (int root = 33; root <= 34; root++) {
      x = make();
      x.warm(1, -9);
      x.warm(2, -9);
      x.roof(3, 9, 60);
      x.ice(0, 1, 0, 1, root);
      due(38, "60 at most, root " + root, x.winters(0, 11), 34 - root);
    }
    x = steady();
    x.ice(0, 0, 0, 1, 1);
    x.hours(1);
    due(38, "fallen already", x.winters(5, 60), 0);
  }

  private static void part() {
    IcicleEaves x = make();
    for (int what : new int[] {-1, 2, LOW, HIGH}) due(39, "part " + what, x.part(what), BAD);
    due(39, "above", x.part(0), 0);
    due(39, "below", x.part(1), 1);
    status(39, "part", x, 4, 0, 0);
  }

  private static void image() {
    IcicleEaves x = steady();
    x.ice(0, 0, 0, 5, 8);
    for (int i : new int[] {-1, 2, LOW, HIGH}) due(40, "image " + i, x.image(i), BAD);
    for (int i : new int[] {-1, 2, LOW, HIGH}) due(41, "from " + i, x.from(i), BAD);
    due(41, "none was kept", x.from(1), NO);
    status(41, "from", x, 8, 1, 0);
    x.seen(0, 1, 2, 3);
    x.note(0, 1, 2, 3, 4);
    x.mark(0, 1, 2, 3, 4);
    x.hours(1);
    x.heats(0, 9);
    long kept = x.digest();
    due(40, "kept", x.image(0), 1);
    due(41, "none was kept as the other", x.from(1), NO);
    x.warm(3, 3);
    x.roof(0, 0, 0);
    x.ice(1, 0, 0, 1, 1);
    x.hours(7);
    x.forget(0);
    x.forget(1);
    x.forget(2);
    due(40, "the other", x.image(1), 1);
    long other = x.digest();
    due(41, "back", x.from(0), 1);
    due(41, "as it was kept", x.digest(), kept);
    due(41, "what may be undone too", x.undo(), 1);
    due(41, "what may be undone too", x.undo(), 0);
    due(41, "undone", x.of(0, 3), 5);
    due(41, "again", x.from(0), 1);
    due(41, "the image stayed as it was", x.digest(), kept);
    x.house(0);
    due(41, "the other", x.from(1), 1);
    due(41, "as it was kept", x.digest(), other);
    due(40, "over the first", x.image(0), 1);
    x.house(0);
    x.from(0);
    due(40, "it took its place", x.digest(), other);
    x.type('a');
    x.odds(0, 2, 4);
    x.from(0);
    due(41, "the text stays", x.count(11), 1);
    due(41, "the fraction stays", x.part(0) * 100 + x.part(1), 1);
    status(41, "status stays", x, 8, 2, 0);
    x.house(-1);
    x.roof(0, 3, 60);
    x.ice(0, 0, 0, 5, 8);
    x.odds(0, 2, 4);
    x.from(0);
    due(41, "the fraction stays", x.part(0) * 100 + x.part(1), 925);
  }

  private static void status() {
    IcicleEaves x = make();
    due(42, "another what", x.status(3), -1);
    due(42, "another what", x.status(-1), -1);
    due(42, "another what", x.status(LOW), -1);
    status(42, "they count as bad", x, 3, 0, 0);
    x.undo();
    x.undo();
    for (int k = 0; k < 4; k++) x.roof(0, 0, 0);
    x.more(0);
    x.most(0, 0);
    x.sticks(-2);
    x.read();
    x.most(1, 1);
    x.sticks(0);
    x.first();
    status(42, "each by its reason", x, 6, 2, 1);
  }

  private static void count() {
    IcicleEaves x = steady();
    x.roof(0, 0, 9);
    x.ice(0, 0, 0, 5, 40);
    x.ice(0, 0, 0, 5, 6);
    x.ice(0, 4, 0, 1, 6);
    x.ice(1, 0, 0, 1, 6);
    x.warm(2, 1);
    for (int what : new int[] {-1, 12, LOW, HIGH}) due(43, "count " + what, x.count(what), BAD);
    x.knocks(3);
    x.hours(2);
    x.type('a');
    x.seen(0, 0, 0, 0);
    for (int k = 0; k < 2; k++) x.note(0, 1, 0, 0, 0);
    for (int k = 0; k < 3; k++) x.mark(0, 0, 0, 0, 0);
    // The 1st hour gives 2 to each, of the roof 0; in the 2nd (warmth 1) the dirty one is 3 shorter: 0.
    int[] want = {2, 4, 2, 8, 2, 4, 60 - 2 - 4 + 9 - 1, 1, 2, 3, 2, 1};
    for (int k = 0; k < 12; k++) due(43, "count " + k, x.count(k), want[k]);
    status(43, "count", x, 4, 0, 0);
  }

  private static long hashed(int... values) {
    long h = 1831;
    for (int v : values) h = 31 * h + v;
    return h;
  }

  private static void digest() {
    due(44, "new", make().digest(), hashed(0, 0, 0, 0, 0, 0, 0, 0, 0, 0, 0, 0, 8, 8, 8, 8, 8, 8, 8, 8, 0, 1));
    IcicleEaves x = steady();
    x.roof(2, 0, 9);
    x.ice(0, 0, 6, 5, 8);
    x.ice(1, 4, 3, 2, 7);
    x.warm(5, -9);
    x.odds(0, 2, 4);
    x.knocks(1);
    x.hours(1);
    x.type('a');
    x.seen(1, -2, 3, 4);
    x.note(1, 5, -6, 7, -8);
    x.mark(0, 9, -9, 10, 11);
    long want = hashed(2, 2, 1, 2, 0, 0, 67, 1, 1, 1, 2, 1, 8, 8, 8, 8, 8, 0, 8, 8, 0, 3, 58, 2, 0, 9,
        0, 0, 6, 7, 8, 0, 1, 4, 3, 2, 7, 1, 1, -2, 3, 4, 1, 5, -6, 7, -8, 0, 9, -9, 10, 11, 9, 25);
    due(44, "all of it", x.digest(), want);
    x.undo();
    x.of(9, 9);
    x.image(0);
    x.hours(1);
    due(44, "status and images do not count", x.digest(), want);
  }

  public static void main(String[] args) {
    newObject(); house(); warm(); roof(); ice(); type(); clear(); read();
    hours(); snows(); heats(); knocks(); undo(); of(); more(); about(); warmth();
    ahead(); fall(); first(); order(); path(); least(); peak(); most();
    seen(); warms(); tell(); note(); mark(); forget(); is(); look(); kinds(); ask(); sticks(); odds(); winters();
    part(); image(); status(); count(); digest();
    System.out.println(wrong == 0 ? "PromiseTests: all answers are as due" : "PromiseTests: " + wrong + " are not as due");
    if (wrong != 0) System.exit(1);
  }
}
