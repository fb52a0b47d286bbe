/** Edges of the promises 26 to 35: what was seen, noted, marked, what fits it, and the next look. */
final class GuessEdges extends Edge {
  private static final int PLAIN = 0, SLATE = 1, THATCH = 2, TIN = 3, MOSSY = 4, STEEP = 5;
  private static final int ALL_HEATS = 1023, ALL_KINDS = 63;

  // ---- 26: seen

  @Sentence(of = 26, says = "SEEN: how many there are. BAD; FULL: 5.")
  static void seenOnesOfNumbersNotAsTold() {
    IcicleEaves x = make();
    bad(x, "no roof", () -> x.seen(0, 0, 0, 0));
    x.roof(0, 0, 0);
    x.roof(0, 0, 0);
    outside(x, "roof", 0, 1, (y, v) -> y.seen(v, 0, 0, 0));
    outside(x, "warmth", -9, 9, (y, v) -> y.seen(0, v, 0, 0));
    outside(x, "snow", 0, 60, (y, v) -> y.seen(0, 0, v, 0));
    outside(x, "water", 0, 60, (y, v) -> y.seen(0, 0, 0, v));
    due("the first behind them", x.seen(1, 0, 0, 0), 1);
  }

  @Sentence(of = 0, says = "SEEN 0 .. 4, as they come: of a ROOF by WARMTH w (-9 .. 9) having SNOW s (0 .. 60) q WATER (0 .. 60) came.")
  static void seenOnesOfTheLeastAndOfTheMost() {
    IcicleEaves x = make();
    x.roof(STEEP, 0, 0);
    due("the least", x.seen(0, -9, 0, 0), 1);
    due("it fits", x.warms(0), ALL_HEATS);
    due("the most", x.seen(0, 9, 60, 60), 2);
    due("it fits", x.warms(0), ALL_HEATS);
  }

  @Sentence(of = 26, says = "SEEN: how many there are. BAD; FULL: 5.")
  static void aSixthSeenOneIsRefused() {
    IcicleEaves x = make();
    x.roof(0, 0, 0);
    x.roof(0, 0, 0);
    for (int k = 1; k <= 5; k++) due("seen " + k, x.seen(k % 2, 0, 0, 0), k);
    full(x, "the 6th", () -> x.seen(0, 0, 0, 0));
    bad(x, "BAD ahead of FULL", () -> x.seen(0, 0, 0, 61));
    due("count(7)", x.count(7), 5);
  }

  // ---- 27: warms

  @Sentence(of = 27, says = "HEATS, as bits. BAD.")
  static void warmsTakesARoof() {
    IcicleEaves x = make();
    bad(x, "no roof", () -> x.warms(0));
    x.roof(0, 0, 0);
    x.roof(0, 0, 0);
    outside(x, "warms", 0, 1, IcicleEaves::warms);
    looks(x, "none seen", () -> x.warms(1), ALL_HEATS);
  }

  private static void heats(int kind, int w, int s, int q, int want) {
    IcicleEaves x = roofed(-1, kind, 0, 60);
    x.seen(0, w, s, q);
    looks(x, "warms(0) by kind " + kind + ", " + w + ", snow " + s + ", water " + q, () -> x.warms(0), want);
  }

  @Sentence(of = 0, says = "HEATS of a ROOF (bits 0 to 9) by which, its KIND as it is, all SEEN of it are so.")
  static void heatsAreTheBits0To9() {
    heats(PLAIN, 0, 60, 0, 1);
    heats(PLAIN, 0, 60, 9, 512);
    heats(PLAIN, 9, 60, 18, 512);
    heats(PLAIN, -8, 60, 0, 511);
    heats(PLAIN, -9, 60, 0, ALL_HEATS);
    heats(PLAIN, 0, 5, 5, 992);
  }

  @Sentence(of = 0, says = "HEATS of a ROOF (bits 0 to 9) by which, its KIND as it is, all SEEN of it are so.")
  static void noHeatFits() {
    heats(PLAIN, 9, 60, 8, 0);
    heats(PLAIN, 9, 60, 19, 0);
    heats(PLAIN, 0, 0, 60, 0);
    heats(TIN, -5, 60, 1, 0);
    heats(STEEP, 0, 41, 5, 0);
  }

  @Sentence(of = 0, says = "HEATS of a ROOF (bits 0 to 9) by which, its KIND as it is, all SEEN of it are so.")
  static void heatsByTheKindAsItIs() {
    heats(SLATE, 0, 60, 2, 0);
    heats(SLATE, 0, 60, 3, 2);
    heats(THATCH, 0, 60, 4, 768);
    heats(TIN, -5, 60, 0, ALL_HEATS);
    heats(TIN, -4, 60, 0, 31);
    heats(MOSSY, 0, 59, 0, 15);
    heats(STEEP, 0, 41, 41, ALL_HEATS);
    heats(STEEP, 0, 40, 5, 32);
  }

  @Sentence(of = 0, says = "HEATS of a ROOF (bits 0 to 9) by which, its KIND as it is, all SEEN of it are so.")
  static void allSeenOfItAreSoAndThoseOfOthersDoNotCount() {
    IcicleEaves x = make();
    x.roof(PLAIN, 0, 0);
    x.roof(PLAIN, 0, 0);
    x.seen(0, -4, 60, 0);
    x.seen(1, 0, 60, 9);
    x.seen(0, 0, 4, 4);
    due("4 at most, 4 at least", x.warms(0), 16);
    due("of the other", x.warms(1), 512);
    x.seen(0, 0, 60, 3);
    due("no heat", x.warms(0), 0);
    due("of the other", x.warms(1), 512);
  }

  @Sentence(of = 0, says = "HEATS of a ROOF (bits 0 to 9) by which, its KIND as it is, all SEEN of it are so.")
  static void eachRoofByItsOwnKind() {
    IcicleEaves x = make();
    x.roof(PLAIN, 0, 0);
    x.roof(SLATE, 0, 0);
    x.roof(THATCH, 0, 0);
    for (int r = 0; r < 3; r++) x.seen(r, 0, 60, 4);
    int[] want = {16, 4, 768};
    for (int r = 0; r < 3; r++) due("warms(" + r + ")", x.warms(r), want[r]);
  }

  // ---- 28: tell

  @Sentence(of = 28, says = "TELL. NONE. BAD.")
  static void tellTakesARoof() {
    IcicleEaves x = make();
    bad(x, "no roof", () -> x.tell(0));
    x.roof(0, 0, 60);
    x.roof(0, 0, 60);
    outside(x, "tell", 0, 1, IcicleEaves::tell);
    looks(x, "all heats are apart by 0", () -> x.tell(1), 9);
  }

  private static void tells(int kind, int snow, int w, int s, int q, int want) {
    IcicleEaves x = roofed(-1, kind, 0, snow);
    x.seen(0, w, s, q);
    looks(x, "tell(0) by kind " + kind + ", snow " + snow + ", heats " + x.warms(0), () -> x.tell(0), want);
  }

  @Sentence(of = 0, says = "TELL for a ROOF: WARMTH (0 .. 18, less 9) by which, SNOW as it is, the most of these HEATS by which as much comes are fewest")
  static void theFewestByTheSnowAsItIs() {
    IcicleEaves x = roofed(-1, PLAIN, 0, 1);
    looks(x, "by 1 snow 5 heats give 0, 5 give 1", () -> x.tell(0), 5);
    tells(PLAIN, 60, 0, 8, 8, 1);
    tells(PLAIN, 60, -1, 60, 0, 9);
    tells(THATCH, 60, 0, 60, 0, 10);
    tells(MOSSY, 60, 2, 59, 0, 10);
    tells(MOSSY, 59, 2, 59, 0, 12);
  }

  @Sentence(of = 0, says = "that number; of like ones the least; none: no HEAT.")
  static void ofLikeWarmthsTheLeast() {
    IcicleEaves x = roofed(-1, PLAIN, 0, 0);
    looks(x, "without snow none are apart", () -> x.tell(0), 0);
    tells(PLAIN, 60, 0, 60, 9, 0);
    tells(PLAIN, 0, 0, 8, 8, 0);
    tells(STEEP, 41, 0, 8, 8, 0);
  }

  @Sentence(of = 0, says = "that number; of like ones the least; none: no HEAT.")
  static void noHeatNoWarmth() {
    tells(PLAIN, 60, 9, 60, 8, NONE);
    tells(PLAIN, 0, 9, 60, 8, NONE);
  }

  // ---- 29: note

  @Sentence(of = 29, says = "A NOTE: how many there are. BAD; FULL: 6.")
  static void notesOfNumbersNotAsTold() {
    IcicleEaves x = frozen();
    bad(x, "no icicle", () -> x.note(0, 1, 0, 0, 0));
    hang(x, 1);
    hang(x, 1);
    outside(x, "icicle", 0, 1, (y, v) -> y.note(v, 1, 0, 0, 0));
    outside(x, "long", 1, 30, (y, v) -> y.note(0, v, 0, 0, 0));
    outside(x, "warmth", -9, 9, (y, v) -> y.note(0, 1, v, 0, 0));
    outside(x, "water", 0, 20, (y, v) -> y.note(0, 1, 0, v, 0));
    outside(x, "longer by", -30, 50, (y, v) -> y.note(0, 1, 0, 0, v));
    due("the first behind them", x.note(1, 1, 0, 0, 0), 1);
  }

  @Sentence(of = 0, says = "NOTES 0 .. 5, as they come: an ICICLE, were it LONG l (1 .. 30), by WARMTH w, WATER q (0 .. 20) was longer by x (-30 .. 50).")
  static void notesOfTheLeastAndOfTheMost() {
    IcicleEaves x = frozen();
    hang(x, 1);
    due("the least", x.note(0, 1, -9, 0, -30), 1);
    due("no kind", x.is(0), 0);
    x.forget(1);
    due("the most", x.note(0, 30, 9, 20, 50), 1);
    due("no kind", x.is(0), 0);
    x.forget(1);
    due("the most of a cold hour", x.note(0, 30, -9, 20, 42), 1);
    due("twisted", x.is(0), 32);
    due("the least of a warm one", x.note(0, 30, 9, 20, -18), 2);
    due("twisted", x.is(0), 32);
  }

  @Sentence(of = 29, says = "A NOTE: how many there are. BAD; FULL: 6.")
  static void aSeventhNoteIsRefused() {
    IcicleEaves x = frozen();
    hang(x, 1);
    hang(x, 1);
    for (int k = 1; k <= 6; k++) due("note " + k, x.note(k % 2, 1, 0, 0, 0), k);
    full(x, "the 7th", () -> x.note(0, 1, 0, 0, 0));
    bad(x, "BAD ahead of FULL", () -> x.note(0, 1, 0, 21, 0));
    due("count(8)", x.count(8), 6);
  }

  // ---- 30: mark

  @Sentence(of = 30, says = "A MARK: how many there are. BAD; FULL: 6.")
  static void marksOfNumbersNotAsTold() {
    IcicleEaves x = make();
    bad(x, "no roof", () -> x.mark(0, 0, 0, 0, 0));
    x.roof(0, 0, 0);
    x.roof(0, 0, 0);
    outside(x, "roof", 0, 1, (y, v) -> y.mark(v, 0, 0, 0, 0));
    outside(x, "heat", 0, 9, (y, v) -> y.mark(0, v, 0, 0, 0));
    outside(x, "warmth", -9, 9, (y, v) -> y.mark(0, 0, v, 0, 0));
    outside(x, "snow", 0, 60, (y, v) -> y.mark(0, 0, 0, v, 0));
    outside(x, "water", 0, 60, (y, v) -> y.mark(0, 0, 0, 0, v));
    due("the first behind them", x.mark(1, 0, 0, 0, 0), 1);
  }

  @Sentence(of = 0, says = "MARKS 0 .. 5, as they come: of a ROOF, were HEAT e (0 .. 9), by WARMTH w having SNOW s q WATER came.")
  static void marksOfTheLeastAndOfTheMost() {
    IcicleEaves x = make();
    x.roof(0, 5, 5);
    due("the least", x.mark(0, 0, -9, 0, 0), 1);
    due("all kinds", x.kinds(0), ALL_KINDS);
    due("the most", x.mark(0, 9, 9, 60, 60), 2);
    due("steep", x.kinds(0), 32);
  }

  @Sentence(of = 30, says = "A MARK: how many there are. BAD; FULL: 6.")
  static void aSeventhMarkIsRefused() {
    IcicleEaves x = make();
    x.roof(0, 0, 0);
    x.roof(0, 0, 0);
    for (int k = 1; k <= 6; k++) due("mark " + k, x.mark(k % 2, 0, 0, 0, 0), k);
    full(x, "the 7th", () -> x.mark(0, 0, 0, 0, 0));
    bad(x, "BAD ahead of FULL", () -> x.mark(0, 0, 0, 61, 0));
    due("count(9)", x.count(9), 6);
  }

  // ---- 31: forget

  /** As many of each as there may be: of SEEN ones 5, of NOTES 6, of MARKS 6. */
  private static IcicleEaves fullOfRows() {
    IcicleEaves x = frozen();
    hang(x, 1);
    for (int k = 0; k < 7; k++) {
      x.seen(0, 0, 0, 1);
      x.note(0, 1, 0, 0, 1);
      x.mark(0, 0, 0, 0, 1);
    }
    return x;
  }

  @Sentence(of = 31, says = "No SEEN ones (0), NOTES (1), MARKS (2): how many there were. BAD.")
  static void forgetTakes0To2() {
    IcicleEaves x = fullOfRows();
    outside(x, "forget", 0, 2, IcicleEaves::forget);
    int[] were = {5, 6, 6};
    for (int what = 0; what < 3; what++) {
      due("count(" + (7 + what) + ")", x.count(7 + what), were[what]);
      due("forget(" + what + ")", x.forget(what), were[what]);
      due("count(" + (7 + what) + ")", x.count(7 + what), 0);
      due("forget(" + what + ") of none", x.forget(what), 0);
    }
  }

  @Sentence(of = 31, says = "No SEEN ones (0), NOTES (1), MARKS (2): how many there were. BAD.")
  static void forgetLeavesTheOthers() {
    int[] were = {5, 6, 6};
    for (int what = 0; what < 3; what++) {
      IcicleEaves x = fullOfRows();
      x.forget(what);
      for (int other = 0; other < 3; other++) {
        due("count(" + (7 + other) + ") behind forget(" + what + ")", x.count(7 + other), other == what ? 0 : were[other]);
      }
    }
  }

  @Sentence(of = 31, says = "No SEEN ones (0), NOTES (1), MARKS (2): how many there were. BAD.")
  static void thereIsRoomBehindForget() {
    IcicleEaves x = fullOfRows();
    for (int what = 0; what < 3; what++) x.forget(what);
    due("all heats", x.warms(0), ALL_HEATS);
    due("all kinds", x.is(0), ALL_KINDS);
    due("all kinds", x.kinds(0), ALL_KINDS);
    due("seen", x.seen(0, 0, 0, 0), 1);
    due("note", x.note(0, 1, 0, 0, 0), 1);
    due("mark", x.mark(0, 0, 0, 0, 0), 1);
  }

  // ---- 32: is

  @Sentence(of = 32, says = "IS, as bits. BAD.")
  static void isTakesAnIcicle() {
    IcicleEaves x = frozen();
    bad(x, "no icicle", () -> x.is(0));
    hang(x, 1);
    hang(x, 1);
    outside(x, "is", 0, 1, IcicleEaves::is);
    looks(x, "no notes", () -> x.is(1), ALL_KINDS);
    x.knocks(1);
    looks(x, "one lost", () -> x.is(1), ALL_KINDS);
  }

  private static void icicleKinds(int l, int w, int q, int longer, int want) {
    IcicleEaves x = frozen();
    hang(x, 1);
    x.note(0, l, w, q, longer);
    looks(x, "is(0) by long " + l + ", " + w + ", water " + q + ", longer by " + longer, () -> x.is(0), want);
  }

  @Sentence(of = 0, says = "IS: KINDS (bits) of ICICLES by which all NOTES of one are so.")
  static void kindsOfIciclesAreTheBits0To5() {
    icicleKinds(5, -1, 4, 4, 1 + 16);
    icicleKinds(5, -1, 4, 2, 2 + 8);
    icicleKinds(5, -1, 4, 5, 4);
    icicleKinds(5, -1, 4, 10, 32);
    icicleKinds(21, -1, 4, 2, 2);
    icicleKinds(21, -1, 4, 0, 8);
    icicleKinds(6, 1, 4, -3, 16);
    icicleKinds(6, 1, 4, -1, 1 + 4 + 32);
    icicleKinds(6, 0, 4, 0, ALL_KINDS);
    icicleKinds(6, -1, 4, 1, 0);
  }

  @Sentence(of = 0, says = "IS: KINDS (bits) of ICICLES by which all NOTES of one are so.")
  static void allNotesOfOneAreSoAndThoseOfOthersDoNotCount() {
    IcicleEaves x = frozen();
    hang(x, 1);
    hang(x, 1);
    x.note(0, 5, -1, 4, 4);
    x.note(1, 5, -1, 4, 10);
    x.note(0, 5, 1, 4, -1);
    due("plain", x.is(0), 1);
    due("of the other: twisted", x.is(1), 32);
    x.note(0, 5, -1, 4, 5);
    due("no kind", x.is(0), 0);
    due("of the other: twisted", x.is(1), 32);
  }

  // ---- 33: look

  @Sentence(of = 33, says = "LOOK. NONE. BAD.")
  static void lookTakesAnIcicle() {
    IcicleEaves x = frozen();
    bad(x, "no icicle", () -> x.look(0));
    hang(x, 7);
    hang(x, 7);
    outside(x, "look", 0, 1, IcicleEaves::look);
    looks(x, "pairs by -9 and 1 water", () -> x.look(1), 1);
  }

  private static void lookAt(int l, int noted, int longer, int want) {
    IcicleEaves x = frozen();
    hang(x, l);
    x.note(0, noted, -1, 4, longer);
    looks(x, "look(0) at one long " + l + " of the kinds " + x.is(0), () -> x.look(0), want);
  }

  @Sentence(of = 0, says = "LONG as it is, by which the most of these KINDS that are as much longer are fewest")
  static void theFewestByTheLongAsItIs() {
    lookAt(7, 6, 4, 1000);
    lookAt(21, 6, 2, 2);
    lookAt(20, 6, 2, 0);
    lookAt(10, 6, 5, 1);
    lookAt(11, 6, 5, 0);
  }

  @Sentence(of = 0, says = "LOOK: 100 w and 9, and q (w -9 .. 9, q 0 .. 20; told as 100 times what w and 9 is, and q)")
  static void theLeastLookIsToldAs0() {
    lookAt(7, 5, 5, 0);
    lookAt(7, 5, 10, 0);
  }

  @Sentence(of = 0, says = "LOOK: 100 w and 9, and q (w -9 .. 9, q 0 .. 20; told as 100 times what w and 9 is, and q)")
  static void aLookByWarmth1IsToldAs1000() {
    IcicleEaves x = frozen();
    hang(x, 7);
    x.note(0, 6, -1, 1, 1);
    due("plain, dirty", x.is(0), 17);
    looks(x, "apart by 1", () -> x.look(0), 1000);
  }

  @Sentence(of = 0, says = "of like ones the least; none: no KIND. MARKS")
  static void noKindOfIcicleNoLook() {
    lookAt(7, 6, 1, NONE);
    lookAt(7, 6, 50, NONE);
  }

  @Sentence(of = 0, says = "LONG as it is, by which the most of these KINDS that are as much longer are fewest")
  static void oneGoneIsLong0() {
    IcicleEaves x = thawing();
    hang(x, 1);
    x.note(0, 6, -1, 4, 5);
    looks(x, "thin, twisted are as much longer at 1", () -> x.look(0), 0);
    x.hours(1);
    looks(x, "they are not at 0", () -> x.look(0), 1);
  }

  // ---- 34: kinds

  @Sentence(of = 34, says = "WHAT, as bits. BAD.")
  static void kindsTakesARoof() {
    IcicleEaves x = make();
    bad(x, "no roof", () -> x.kinds(0));
    x.roof(0, 0, 0);
    x.roof(0, 0, 0);
    outside(x, "kinds", 0, 1, IcicleEaves::kinds);
    looks(x, "no marks", () -> x.kinds(1), ALL_KINDS);
  }

  private static void roofKinds(int e, int w, int s, int q, int want) {
    IcicleEaves x = make();
    x.roof(0, 0, 0);
    x.mark(0, e, w, s, q);
    looks(x, "kinds(0) by heat " + e + ", " + w + ", snow " + s + ", water " + q, () -> x.kinds(0), want);
  }

  @Sentence(of = 0, says = "WHAT: KINDS of ROOFS (bits) by which all MARKS of one are so.")
  static void kindsOfRoofsAreTheBits0To5() {
    roofKinds(5, 0, 41, 5, 1);
    roofKinds(7, -5, 60, 4, 2);
    roofKinds(5, 0, 41, 2, 4);
    roofKinds(5, 0, 41, 7, 2 + 8);
    roofKinds(5, 0, 41, 1, 16);
    roofKinds(5, 0, 41, 41, 32);
    roofKinds(5, 0, 40, 5, 1 + 32);
    roofKinds(5, 0, 40, 2, 4 + 16);
    roofKinds(0, 0, 0, 0, ALL_KINDS);
    roofKinds(0, 0, 0, 60, 0);
  }

  @Sentence(of = 0, says = "WHAT: KINDS of ROOFS (bits) by which all MARKS of one are so.")
  static void allMarksOfOneAreSoAndThoseOfOthersDoNotCount() {
    IcicleEaves x = make();
    x.roof(0, 0, 0);
    x.roof(0, 0, 0);
    x.mark(0, 5, 0, 41, 7);
    x.mark(1, 5, 0, 41, 41);
    x.mark(0, 9, -5, 60, 0);
    due("tin", x.kinds(0), 8);
    due("of the other: steep", x.kinds(1), 32);
    x.mark(0, 5, 0, 41, 5);
    due("no kind", x.kinds(0), 0);
    due("of the other: steep", x.kinds(1), 32);
  }

  // ---- 35: ask

  @Sentence(of = 35, says = "ASK. NONE. BAD.")
  static void askTakesARoof() {
    IcicleEaves x = make();
    bad(x, "no roof", () -> x.ask(0));
    x.roof(0, 2, 0);
    x.roof(0, 2, 0);
    outside(x, "ask", 0, 1, IcicleEaves::ask);
    looks(x, "pairs by -1 and 2 snow", () -> x.ask(1), 802);
  }

  private static void asks(int heat, int s, int q, int want) {
    IcicleEaves x = make();
    x.roof(0, heat, 0);
    x.mark(0, 5, 0, s, q);
    looks(x, "ask(0) by heat " + heat + " of the kinds " + x.kinds(0), () -> x.ask(0), want);
  }

  @Sentence(of = 0, says = "ASK: 100 times what w and 9 is, and s (w -9 .. 9, s 0 .. 60), HEAT as it is")
  static void theFewestByTheHeatAsItIs() {
    asks(0, 40, 5, 41);
    asks(9, 40, 5, 41);
    asks(9, 41, 7, 101);
    asks(6, 41, 7, 401);
    asks(5, 41, 7, 0);
    asks(9, 40, 2, 203);
    asks(0, 40, 2, 1103);
  }

  @Sentence(of = 0, says = "by which the most of these KINDS of which as much comes are fewest; of like ones the least; none: no KIND.")
  static void ofLikeAsksTheLeast() {
    asks(5, 41, 5, 0);
    asks(5, 41, 41, 0);
  }

  @Sentence(of = 0, says = "by which the most of these KINDS of which as much comes are fewest; of like ones the least; none: no KIND.")
  static void noKindOfRoofNoAsk() {
    asks(5, 41, 3, NONE);
    asks(0, 0, 60, NONE);
  }
}
