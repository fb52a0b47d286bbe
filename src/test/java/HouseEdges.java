/** Edges of the promises 1 to 8: a new object, and a house. */
final class HouseEdges extends Edge {
  // ---- 1: a new object

  @Sentence(of = 1, says = "As told; no ROOFS.")
  static void aNewObjectHasNoRoofs() {
    IcicleEaves x = make();
    due("count(0)", x.count(0), 0);
    bad(x, "about(0, 0)", () -> x.about(0, 0));
    bad(x, "ice on none", () -> x.ice(0, 0, 0, 1, 1));
  }

  @Sentence(of = 1, says = "As told; no ROOFS.")
  static void aNewObjectHasNothingElse() {
    IcicleEaves x = make();
    for (int what = 1; what < 12; what++) due("count(" + what + ")", x.count(what), 0);
    status(x, 0, 0, 0);
    no(x, "undo()", x::undo);
    no(x, "from(0)", () -> x.from(0));
    no(x, "from(1)", () -> x.from(1));
    due("clear()", x.clear(), 0);
  }

  @Sentence(of = 1, says = "As told; no ROOFS.")
  static void everyLookOfANewObject() {
    IcicleEaves x = make();
    looks(x, "first()", x::first, NONE);
    looks(x, "path()", x::path, 0);
    looks(x, "most(4, NONE)", () -> x.most(4, NONE), 0);
    looks(x, "most(4, 3)", () -> x.most(4, 3), 6);
    looks(x, "sticks(NONE)", () -> x.sticks(NONE), 0);
    looks(x, "sticks(0)", () -> x.sticks(0), NOT_SO_MANY);
    looks(x, "winters(0, 60)", () -> x.winters(0, 60), 0);
    looks(x, "read()", x::read, -10);
    no(x, "order(0)", () -> x.order(0));
    for (int i : new int[] {0, 5}) {
      bad(x, "of", () -> x.of(i, 0));
      badAs(-100, x, "more", () -> x.more(i));
      bad(x, "ahead", () -> x.ahead(i, 0, 0));
      bad(x, "fall", () -> x.fall(i));
      bad(x, "peak", () -> x.peak(i, 0));
      bad(x, "odds", () -> x.odds(i, 0, 0));
    }
    due("hours(96) with nothing there", x.hours(96), 0);
  }

  // ---- 2: house

  @Sentence(of = 2, says = "WARMTH of all HOURS (-9 .. 9)")
  static void houseTakesMinus9To9() {
    IcicleEaves x = crowded();
    outside(x, "house", -9, 9, IcicleEaves::house);
    for (int w : new int[] {-9, 9}) {
      x.house(w);
      for (int h = 0; h < 8; h++) due("warmth(" + h + ") by " + w, x.warmth(h), w + 9);
    }
  }

  @Sentence(of = 2, says = "all else as at first")
  static void houseLeavesNothingOfTheOld() {
    IcicleEaves x = crowded(), y = make();
    x.clear();
    x.house(-1);
    due("digest() as of a new object", x.digest(), y.digest());
    no(x, "undo()", x::undo);
    due("the first roof", x.roof(0, 0, 0), 0);
    due("the first icicle", x.ice(0, 0, 0, 1, 1), 0);
    due("warms(0)", x.warms(0), 1023);
    due("is(0)", x.is(0), 63);
    due("kinds(0)", x.kinds(0), 63);
  }

  @Sentence(of = 2, says = "(but for IMAGES, THE TEXT, THE FRACTION, STATUS)")
  static void houseLeavesImages() {
    IcicleEaves x = crowded();
    x.image(1);
    long before = x.digest();
    x.house(0);
    no(x, "from(0), not kept", () -> x.from(0));
    due("from(1)", x.from(1), 1);
    due("digest()", x.digest(), before);
  }

  @Sentence(of = 2, says = "(but for IMAGES, THE TEXT, THE FRACTION, STATUS)")
  static void houseLeavesTheText() {
    IcicleEaves x = make();
    typeAll(x, "house 9;");
    x.house(5);
    due("count(11)", x.count(11), 8);
    due("read()", x.read(), 1);
  }

  @Sentence(of = 2, says = "(but for IMAGES, THE TEXT, THE FRACTION, STATUS)")
  static void houseLeavesTheFraction() {
    IcicleEaves x = frozen();
    hang(x, 5, 4);
    x.odds(0, 1, 0);
    x.house(5);
    due("above", x.part(0), 1);
    due("below", x.part(1), 1);
  }

  @Sentence(of = 2, says = "(but for IMAGES, THE TEXT, THE FRACTION, STATUS)")
  static void houseLeavesStatus() {
    IcicleEaves x = make();
    x.house(10);
    x.undo();
    for (int r = 0; r < 4; r++) x.roof(0, 0, 0);
    x.house(5);
    status(x, 1, 1, 1);
  }

  @Sentence(of = 2, says = "how many ICICLES there were.")
  static void houseTellsHowManyIciclesThereWere() {
    IcicleEaves x = frozen();
    due("none", x.house(-1), 0);
    x.roof(0, 0, 0);
    due("a roof alone", x.house(-1), 0);
    x.roof(0, 0, 0);
    for (int i = 0; i < 6; i++) hang(x, 5);
    due("six", x.house(1), 6);
    x.roof(0, 0, 0);
    hang(x, 1);
    hang(x, 5);
    x.knocks(1);
    x.hours(1);
    due("lost ones too", x.house(1), 2);
  }

  // ---- 3: warm

  @Sentence(of = 3, says = "WARMTH of the h-th of the 8 HOURS (0 .. 7): 1.")
  static void warmTakesTheHours0To7() {
    IcicleEaves x = make();
    outside(x, "warm h", 0, 7, (y, h) -> y.warm(h, 0));
    due("warm(0, 3)", x.warm(0, 3), 1);
    due("warm(7, 4)", x.warm(7, 4), 1);
    int[] want = {12, 8, 8, 8, 8, 8, 8, 13};
    for (int h = 0; h < 8; h++) due("warmth(" + h + ")", x.warmth(h), want[h]);
  }

  @Sentence(of = 3, says = "WARMTH of the h-th of the 8 HOURS (0 .. 7): 1. BAD.")
  static void warmTakesMinus9To9() {
    IcicleEaves x = make();
    outside(x, "warm w", -9, 9, (y, w) -> y.warm(3, w));
    due("warm(3, -9)", x.warm(3, -9), 1);
    due("warmth(3)", x.warmth(3), 0);
    due("warm(3, 9)", x.warm(3, 9), 1);
    due("warmth(3)", x.warmth(3), 18);
    due("as it is already", x.warm(3, 9), 1);
  }

  // ---- 4: roof

  @Sentence(of = 4, says = "A ROOF: the number. BAD; FULL: 3.")
  static void aRoofOfNumbersNotAsTold() {
    IcicleEaves x = make();
    outside(x, "kind", 0, 5, (y, v) -> y.roof(v, 0, 0));
    outside(x, "heat", 0, 9, (y, v) -> y.roof(0, v, 0));
    outside(x, "snow", 0, 60, (y, v) -> y.roof(0, 0, v));
    due("the first behind them", x.roof(0, 0, 0), 0);
  }

  @Sentence(of = 4, says = "A ROOF: the number. BAD; FULL: 3.")
  static void aFourthRoofIsRefused() {
    IcicleEaves x = make();
    for (int r = 0; r < 3; r++) due("roof " + r, x.roof(0, 0, 0), r);
    x.hours(1);
    full(x, "the 4th", () -> x.roof(0, 0, 0));
    bad(x, "BAD ahead of FULL", () -> x.roof(6, 0, 0));
    due("count(0)", x.count(0), 3);
  }

  // ---- 5: ice

  @Sentence(of = 5, says = "An ICICLE: the number. BAD; FULL: 6.")
  static void anIcicleOfNumbersNotAsTold() {
    IcicleEaves x = make();
    x.roof(0, 0, 0);
    x.roof(0, 0, 0);
    outside(x, "roof", 0, 1, (y, v) -> y.ice(v, 0, 0, 1, 1));
    outside(x, "kind", 0, 5, (y, v) -> y.ice(0, v, 0, 1, 1));
    outside(x, "place", 0, 7, (y, v) -> y.ice(0, 0, v, 1, 1));
    outside(x, "long", 1, 30, (y, v) -> y.ice(0, 0, 0, v, 1));
    outside(x, "root", 1, 40, (y, v) -> y.ice(0, 0, 0, 1, v));
    due("the first behind them", x.ice(1, 0, 0, 1, 1), 0);
  }

  @Sentence(of = 5, says = "An ICICLE: the number. BAD; FULL: 6.")
  static void aSeventhIcicleIsRefused() {
    IcicleEaves x = frozen();
    for (int i = 0; i < 6; i++) due("icicle " + i, hang(x, 5), i);
    x.knocks(0);
    full(x, "the 7th, though one is lost", () -> hang(x, 5));
    bad(x, "BAD ahead of FULL", () -> hang(x, 31));
    due("count(1)", x.count(1), 6);
  }

  @Sentence(of = 5, says = "An ICICLE: the number. BAD; FULL: 6.")
  static void sixIciclesOfAllRoofsTogether() {
    IcicleEaves x = frozen();
    x.roof(0, 0, 0);
    for (int i = 0; i < 6; i++) due("icicle " + i, x.ice(i % 2, 0, 0, 1, 1), i);
    full(x, "the 7th", () -> x.ice(1, 0, 0, 1, 1));
  }

  // ---- 6: type

  @Sentence(of = 6, says = "A byte (0 .. 127) comes behind THE TEXT: how many it has.")
  static void aByteIs0To127() {
    IcicleEaves x = make();
    outside(x, "type", 0, 127, IcicleEaves::type);
    due("type(0)", x.type(0), 1);
    due("type(127)", x.type(127), 2);
    bad(x, "type(128)", () -> x.type(128));
    due("count(11)", x.count(11), 2);
  }

  @Sentence(of = 6, says = "how many it has. BAD; FULL.")
  static void the151stByteIsRefused() {
    IcicleEaves x = make();
    for (int k = 1; k <= 150; k++) due("byte " + k, x.type(' '), k);
    full(x, "the 151st", () -> x.type(' '));
    bad(x, "BAD ahead of FULL", () -> x.type(128));
    due("count(11)", x.count(11), 150);
    due("nothing came behind the 150th", x.read(), -160);
  }

  // ---- 7: clear

  @Sentence(of = 7, says = "THE TEXT is empty: how many it had.")
  static void clearOfAnEmptyTextAndOfAFullOne() {
    IcicleEaves x = make();
    looks(x, "clear() of none", x::clear, 0);
    for (int k = 0; k < 150; k++) x.type('x');
    due("clear() of 150", x.clear(), 150);
    due("count(11)", x.count(11), 0);
    due("read()", x.read(), -10);
    due("type behind it", x.type('x'), 1);
    due("clear() of 1", x.clear(), 1);
  }

  @Sentence(of = 7, says = "THE TEXT is empty: how many it had.")
  static void clearLeavesNoByteBehind() {
    IcicleEaves x = make();
    typeAll(x, "house 18;");
    typeAll(x, "house 1");
    due("no figure, no ; of the text that was", x.read(), -17);
    typeAll(x, "hous");
    due("no letter of it", x.read(), -10);
  }

  @Sentence(of = 7, says = "THE TEXT is empty: how many it had.")
  static void clearLeavesAllElse() {
    IcicleEaves x = crowded(), y = crowded();
    x.clear();
    x.type('h');
    due("digest()", x.digest(), y.digest());
  }

  // ---- 8: read

  @Sentence(of = 8, says = "THE HOUSE is read: how many ITEMS.")
  static void readTellsHowManyItems() {
    IcicleEaves x = make();
    typeAll(x, "house 9;");
    due("house alone", x.read(), 1);
    typeAll(x, "house9;" + times(20, "hours1;"));
    due("as many as 150 bytes have", x.read(), 21);
    due("count(2)", x.count(2), 20);
  }

  private static void staysAtAFault(String s, int place) {
    IcicleEaves x = crowded();
    typeAll(x, s);
    x.image(0);
    looks(x, "read '" + s + "'", x::read, -10 - place);
    due("the text: read again", x.read(), -10 - place);
    due("what may be undone", x.undo(), 0);
    due("the image", x.from(0), 1);
  }

  @Sentence(of = 8, says = "-10 less the FAULT: all stays.")
  static void readLeavesAllAtAFault() {
    staysAtAFault("", 0);
    staysAtAFault("house 9;roof 0 0 0;hours 9;x", 27);
    staysAtAFault("house 0;warm 0 0;warm 1 19;", 24);
  }
}
