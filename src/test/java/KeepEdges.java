/** Edges of the promises 40 to 44, and of what is refused: images, status, counts, the digest. */
final class KeepEdges extends Edge {
  // ---- 40: image, 41: from

  @Sentence(of = 40, says = "An IMAGE is kept: 1. BAD.")
  static void imageTakes0To1() {
    IcicleEaves x = crowded();
    outside(x, "image", 0, 1, IcicleEaves::image);
    looks(x, "image(0)", () -> x.image(0), 1);
    looks(x, "image(1)", () -> x.image(1), 1);
  }

  @Sentence(of = 41, says = "It goes on from an IMAGE: 1. BAD; NO: none was kept.")
  static void fromTakes0To1() {
    IcicleEaves x = crowded();
    x.image(0);
    x.image(1);
    outside(x, "from", 0, 1, IcicleEaves::from);
    looks(x, "from(0)", () -> x.from(0), 1);
    looks(x, "from(1)", () -> x.from(1), 1);
  }

  @Sentence(of = 41, says = "It goes on from an IMAGE: 1. BAD; NO: none was kept.")
  static void noneWasKept() {
    for (int i = 0; i < 2; i++) {
      int one = i, other = 1 - i;
      IcicleEaves x = crowded();
      no(x, "neither was kept", () -> x.from(one));
      x.image(one);
      no(x, "the other was not kept", () -> x.from(other));
      looks(x, "this one was", () -> x.from(one), 1);
    }
  }

  @Sentence(of = 0, says = "IMAGES 0, 1 keep all but them, THE TEXT, THE FRACTION and STATUS")
  static void anImageKeepsAll() {
    IcicleEaves x = crowded();
    x.image(0);
    long before = x.digest();
    x.warm(3, 9);
    x.hours(50);
    x.snows(0, 60);
    x.heats(1, 0);
    x.knocks(0);
    for (int what = 0; what < 3; what++) x.forget(what);
    due("from(0)", x.from(0), 1);
    due("digest()", x.digest(), before);
    x.house(9);
    due("from(0) again", x.from(0), 1);
    due("digest()", x.digest(), before);
  }

  @Sentence(of = 0, says = "IMAGES 0, 1 keep all but them, THE TEXT, THE FRACTION and STATUS")
  static void anImageKeepsAllThoughAnotherFullHouseCameBehindIt() {
    IcicleEaves x = crowded();
    x.image(0);
    long before = x.digest();
    x.house(9);
    for (int r = 0; r < 3; r++) x.roof(5, 8, 50);
    for (int i = 0; i < 6; i++) x.ice(i / 3, 5 - i, 7 - i, 20, 21);
    x.seen(2, 9, 60, 60);
    x.note(5, 30, 9, 20, 50);
    x.mark(2, 9, 9, 60, 60);
    for (int k = 0; k < 9; k++) x.hours(1);
    x.from(0);
    due("digest()", x.digest(), before);
    due("undo()", x.undo(), 0);
    due("undo()", x.undo(), 0);
    due("the last icicle hangs again", x.of(5, 5), 0);
  }

  @Sentence(of = 0, says = "IMAGES 0, 1 keep all but them, THE TEXT, THE FRACTION and STATUS")
  static void theTwoImagesAreApart() {
    IcicleEaves x = crowded();
    x.image(0);
    long first = x.digest();
    x.hours(3);
    x.image(1);
    long second = x.digest();
    x.from(0);
    due("the 0th", x.digest(), first);
    x.from(1);
    due("the 1st", x.digest(), second);
    x.image(0);
    x.from(0);
    due("the 0th, kept anew", x.digest(), second);
  }

  @Sentence(of = 0, says = "IMAGES 0, 1 keep all but them, THE TEXT, THE FRACTION and STATUS")
  static void theImagesStayBehindFrom() {
    IcicleEaves x = make();
    x.image(0);
    x.hours(1);
    x.image(1);
    x.from(0);
    due("the 1st is kept, though it came behind the 0th", x.from(1), 1);
    due("count(2)", x.count(2), 1);
  }

  @Sentence(of = 0, says = "IMAGES 0, 1 keep all but them, THE TEXT, THE FRACTION and STATUS")
  static void theTextTheFractionAndStatusStayBehindFrom() {
    IcicleEaves x = frozen();
    hang(x, 5, 4);
    x.image(0);
    x.type('h');
    x.odds(0, 1, 0);
    x.of(9, 9);
    x.from(1);
    for (int r = 0; r < 3; r++) x.roof(0, 0, 0);
    x.from(0);
    due("count(11)", x.count(11), 1);
    due("above", x.part(0), 1);
    status(x, 1, 1, 1);
  }

  @Sentence(of = 0, says = "IMAGES 0, 1 keep all but them, THE TEXT, THE FRACTION and STATUS")
  static void anImageOfNothing() {
    IcicleEaves x = make();
    x.image(1);
    x.roof(0, 0, 60);
    hang(x, 5);
    x.from(1);
    due("count(0)", x.count(0), 0);
    due("count(1)", x.count(1), 0);
    due("the first roof", x.roof(0, 0, 0), 0);
  }

  @Sentence(of = 0, says = "what may be undone they keep; it goes on from one.")
  static void whatMayBeUndoneIsKept() {
    IcicleEaves x = steady();
    for (int k = 0; k < 9; k++) x.hours(1);
    x.image(0);
    x.warm(0, -1);
    no(x, "none may be undone", x::undo);
    x.from(0);
    due("count(10)", x.count(10), 8);
    for (int k = 8; k >= 1; k--) due("undo()", x.undo(), k);
    no(x, "no more", x::undo);
    x.from(0);
    due("count(10) from it again", x.count(10), 8);
  }

  @Sentence(of = 0, says = "what may be undone they keep; it goes on from one.")
  static void noneMayBeUndoneWhereTheImageHasNone() {
    IcicleEaves x = steady();
    x.image(0);
    x.hours(3);
    x.from(0);
    due("count(10)", x.count(10), 0);
    no(x, "undo()", x::undo);
  }

  // ---- 42: status, and what is refused

  @Sentence(of = 42, says = "STATUS: BAD (0), NO (1), FULL (2). -1: another what (counts as BAD).")
  static void statusTakes0To2() {
    IcicleEaves x = make();
    outsideAs(-1, x, "status", 0, 2, IcicleEaves::status);
    status(x, 4, 0, 0);
  }

  @Sentence(of = 0, says = "STATUS: how many calls were refused as BAD, NO, FULL (each answer told so below is such a one).")
  static void eachRefusalCountsByItsReason() {
    IcicleEaves x = make();
    x.house(10);
    x.house(10);
    status(x, 2, 0, 0);
    x.undo();
    x.order(0);
    x.from(0);
    status(x, 2, 3, 0);
    for (int r = 0; r < 4; r++) x.roof(0, 0, 0);
    status(x, 2, 3, 1);
  }

  @Sentence(of = 0, says = "STATUS: how many calls were refused as BAD, NO, FULL (each answer told so below is such a one).")
  static void answersThatAreNoRefusalsDoNotCount() {
    IcicleEaves x = make();
    x.read();
    x.first();
    x.most(1, 1);
    x.sticks(0);
    x.roof(0, 0, 60);
    hang(x, 5);
    x.fall(0);
    x.knocks(0);
    x.peak(0, 0);
    x.seen(0, 0, 0, 60);
    x.tell(0);
    x.note(0, 1, 0, 0, 50);
    x.look(0);
    x.mark(0, 0, 0, 0, 60);
    x.ask(0);
    status(x, 0, 0, 0);
  }

  @Sentence(of = 0, says = "BAD -2 a number is not as told; NO -3 as told; FULL -4 (where others are told they count as these).")
  static void refusalsToldAsOtherNumbersCountAsBad() {
    IcicleEaves x = make();
    badAs(-100, x, "more(0)", () -> x.more(0));
    badAs(-10, x, "most(0, 0)", () -> x.most(0, 0));
    badAs(-10, x, "sticks(-2)", () -> x.sticks(-2));
    badAs(-1, x, "status(3)", () -> x.status(3));
    status(x, 4, 0, 0);
  }

  @Sentence(of = 0, says = "Refused, changing nothing but STATUS, the first of")
  static void badIsAheadOfNoAndOfFull() {
    IcicleEaves x = roofed(-1, 0, 0, 60);
    x.roof(0, 0, 0);
    x.roof(0, 0, 0);
    for (int i = 0; i < 6; i++) hang(x, 5);
    for (int k = 0; k < 6; k++) {
      x.seen(0, 0, 0, 0);
      x.note(0, 1, 0, 0, 0);
      x.mark(0, 0, 0, 0, 0);
    }
    bad(x, "roof", () -> x.roof(0, 10, 0));
    bad(x, "ice", () -> x.ice(3, 0, 0, 1, 1));
    bad(x, "snows", () -> x.snows(0, 0));
    bad(x, "order", () -> x.order(-1));
    bad(x, "seen", () -> x.seen(3, 0, 0, 0));
    bad(x, "note", () -> x.note(6, 1, 0, 0, 0));
    bad(x, "mark", () -> x.mark(3, 0, 0, 0, 0));
    bad(x, "from", () -> x.from(2));
  }

  // ---- 43: count

  @Sentence(of = 43, says = "10 that may be undone, 11 bytes of THE TEXT. BAD.")
  static void countTakes0To11() {
    IcicleEaves x = crowded();
    outside(x, "count", 0, 11, IcicleEaves::count);
    looks(x, "count(0)", () -> x.count(0), 3);
    looks(x, "count(11)", () -> x.count(11), 1);
  }

  @Sentence(of = 43, says = "3 KNOCKED off (bits), 4 FALLEN (bits), 5 GONE (bits)")
  static void lostOnesAreTheBits0To5() {
    for (int i = 0; i < 6; i++) {
      IcicleEaves x = frozen(), y = frozen(), z = frozen();
      for (int k = 0; k < 6; k++) {
        hang(x, 5);
        hang(y, 5, k == i ? 4 : 40);
        hang(z, k == i ? 1 : 5);
      }
      x.knocks(i);
      y.hours(1);
      z.warm(1, 1);
      z.hours(1);
      int[][] got = {{x.count(3), x.count(4), x.count(5)}, {y.count(3), y.count(4), y.count(5)}, {z.count(3), z.count(4), z.count(5)}};
      for (int k = 0; k < 9; k++) due("icicle " + i + ", way " + k / 3 + ", count " + (3 + k % 3), got[k / 3][k % 3], k % 4 == 0 ? 1 << i : 0);
    }
  }

  @Sentence(of = 43, says = "3 KNOCKED off (bits), 4 FALLEN (bits), 5 GONE (bits)")
  static void allSixAreLost() {
    IcicleEaves x = frozen(), y = frozen(), z = frozen();
    for (int i = 0; i < 6; i++) {
      hang(x, 5);
      hang(y, 5, 4);
      hang(z, 1);
    }
    for (int i = 0; i < 6; i++) x.knocks(i);
    y.hours(1);
    z.warm(1, 9);
    z.hours(1);
    due("knocked off", x.count(3), 63);
    due("fallen", y.count(4), 63);
    due("gone", z.count(5), 63);
  }

  @Sentence(of = 43, says = "6 SNOW of all together")
  static void snowOfAllTogether() {
    IcicleEaves x = make();
    due("no roofs", x.count(6), 0);
    for (int r = 0; r < 3; r++) {
      x.roof(0, 0, 60);
      due((r + 1) + " roofs", x.count(6), 60 * (r + 1));
    }
  }

  @Sentence(of = 43, says = "How many: 0 ROOFS, 1 ICICLES, 2 the HOUR")
  static void countsOfAFullHouse() {
    IcicleEaves x = atHour(9999);
    for (int r = 0; r < 3; r++) x.roof(0, 0, 60);
    for (int i = 0; i < 6; i++) hang(x, 5);
    for (int k = 0; k < 7; k++) {
      x.seen(0, 0, 0, 0);
      x.note(0, 1, 0, 0, 0);
      x.mark(0, 0, 0, 0, 0);
    }
    for (int k = 0; k < 9; k++) x.hours(1);
    for (int k = 0; k < 151; k++) x.type(' ');
    int[] want = {3, 6, 9999, 0, 0, 0, 180, 5, 6, 6, 8, 150};
    for (int what = 0; what < 12; what++) due("count(" + what + ")", x.count(what), want[what]);
    status(x, 0, 0, 5);
  }

  // ---- 44: digest

  private static long hashed(int... values) {
    long h = 1831;
    for (int v : values) h = 31 * h + v;
    return h;
  }

  @Sentence(of = 44, says = "h = 1831; then h = 31 h + v for each v: count(0) to count(11); warmth(0) to warmth(7)")
  static void theDigestOfNothing() {
    IcicleEaves x = make();
    due("digest()", x.digest(), hashed(0, 0, 0, 0, 0, 0, 0, 0, 0, 0, 0, 0, 8, 8, 8, 8, 8, 8, 8, 8, 0, 1));
  }

  @Sentence(of = 44, says = "of ROOFS KIND, HEAT, SNOW; of ICICLES what of() tells for 0 to 5; of SEEN r, w, s, q; of NOTES i, l, w, q, x; of MARKS r, e, w, s, q; THE FRACTION.")
  static void theDigestOfTwoOfEach() {
    IcicleEaves x = roofed(-9, 1, 2, 3);
    x.roof(4, 5, 6);
    x.ice(1, 2, 3, 4, 5);
    x.ice(0, 5, 7, 30, 40);
    x.seen(0, -9, 0, 0);
    x.seen(1, 9, 60, 60);
    x.note(0, 1, -9, 0, -30);
    x.note(1, 30, 9, 20, 50);
    x.mark(0, 0, -9, 0, 0);
    x.mark(1, 9, 9, 60, 60);
    x.knocks(0);
    x.type('a');
    due("digest()", x.digest(), hashed(2, 2, 0, 1, 0, 0, 9, 2, 2, 2, 1, 1, 0, 0, 0, 0, 0, 0, 0, 0,
        1, 2, 3, 4, 5, 6, 1, 2, 3, 4, 5, 1, 0, 5, 7, 30, 40, 0,
        0, -9, 0, 0, 1, 9, 60, 60, 0, 1, -9, 0, -30, 1, 30, 9, 20, 50, 0, 0, -9, 0, 0, 1, 9, 9, 60, 60, 0, 1));
  }

  @Sentence(of = 44, says = "h = 1831; then h = 31 h + v for each v")
  static void theDigestTakesTheFractionsTwoParts() {
    IcicleEaves x = roofed(-4, 0, 3, 60);
    hang(x, 5, 6);
    x.odds(0, 6, 1);
    due("digest()", x.digest(), hashed(1, 1, 0, 0, 0, 0, 60, 0, 0, 0, 0, 0, 5, 5, 5, 5, 5, 5, 5, 5,
        0, 3, 60, 0, 0, 0, 5, 6, 0, 468559, 1000000));
  }

  @Sentence(of = 44, says = "h = 1831; then h = 31 h + v for each v")
  static void theDigestIsNoCallOfCount() {
    IcicleEaves x = crowded();
    looks(x, "digest()", x::digest, x.digest());
  }
}
