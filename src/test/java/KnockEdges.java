/** Edges of the promises 25 and 36: which to knock off to have most, and two who knock. */
final class KnockEdges extends Edge {
  private static void row(IcicleEaves x, int n, int together, int... want) {
    due("most(" + n + ", NONE)", x.most(n, NONE), together);
    for (int k = 0; k < n; k++) due("most(" + n + ", " + k + ")", x.most(n, k), want[k]);
  }

  // ---- 25: most

  @Sentence(of = 25, says = "KNOCKS: how LONG (k = NONE), the k-th. -5: not so many. BAD: -10.")
  static void mostTakes1To4AndNoneAtLeast() {
    IcicleEaves x = steady();
    hang(x, 1);
    outsideAs(BAD_ROW, x, "n", 1, 4, (y, n) -> y.most(n, NONE));
    badAs(BAD_ROW, x, "most(4, -2)", () -> x.most(4, -2));
    badAs(BAD_ROW, x, "most(4, LOW)", () -> x.most(4, LOW));
    looks(x, "most(1, NONE)", () -> x.most(1, NONE), 1);
    looks(x, "most(4, NONE)", () -> x.most(4, NONE), 7);
  }

  @Sentence(of = 25, says = "-5: not so many. BAD: -10.")
  static void theRowHasNotSoMany() {
    IcicleEaves x = frozen();
    hang(x, 5);
    for (int n = 1; n <= 4; n++) {
      int hours = n;
      looks(x, "the last of " + n, () -> x.most(hours, hours - 1), hours == 1 ? 0 : 6);
      looks(x, "one behind the last of " + n, () -> x.most(hours, hours), NOT_SO_MANY);
    }
    looks(x, "most(4, HIGH)", () -> x.most(4, HIGH), NOT_SO_MANY);
  }

  @Sentence(of = 25, says = "-5: not so many. BAD: -10.")
  static void badIsAheadOfNotSoMany() {
    IcicleEaves x = frozen();
    badAs(BAD_ROW, x, "most(0, 0)", () -> x.most(0, 0));
    badAs(BAD_ROW, x, "most(5, 5)", () -> x.most(5, 5));
    badAs(BAD_ROW, x, "most(HIGH, HIGH)", () -> x.most(HIGH, HIGH));
  }

  @Sentence(of = 0, says = "KNOCKS in n (1 .. 4) HOURS: ahead of each of them one that is not LOST by then is KNOCKED off")
  static void oneIsKnockedOffAheadOfEachHour() {
    IcicleEaves x = steady();
    hang(x, 3);
    row(x, 1, 3, 0);
    row(x, 2, 5, 6, 0);
    row(x, 4, 9, 6, 6, 6, 0);
  }

  @Sentence(of = 0, says = "KNOCKS in n (1 .. 4) HOURS: ahead of each of them one that is not LOST by then is KNOCKED off")
  static void oneLostNowIsNotKnockedOff() {
    IcicleEaves x = frozen();
    hang(x, 30);
    hang(x, 29, 28);
    hang(x, 2);
    x.knocks(0);
    row(x, 1, 29, 1);
    x.hours(1);
    row(x, 1, 2, 2);
    IcicleEaves y = thawing();
    hang(y, 1);
    y.hours(1);
    row(y, 2, 0, 6, 6);
  }

  @Sentence(of = 0, says = "KNOCKS in n (1 .. 4) HOURS: ahead of each of them one that is not LOST by then is KNOCKED off")
  static void oneLostByThenIsNotKnockedOff() {
    IcicleEaves x = frozen();
    hang(x, 3);
    hang(x, 10, 9);
    // 0 and then 1 would be ahead in the order of rows, but 1 falls in the first hour.
    row(x, 2, 13, 1, 0);
    IcicleEaves y = roofed(2, 0, 0, 0);
    hang(y, 10);
    hang(y, 2);
    // 1 is gone behind the first hour.
    row(y, 2, 10, 0, 6);
    hang(y, 1);
    hang(y, 4);
    row(y, 2, 12, 0, 3);
  }

  @Sentence(of = 0, says = "KNOCKS in n (1 .. 4) HOURS: ahead of each of them one that is not LOST by then is KNOCKED off")
  static void oneIsKnockedOffOnceAlone() {
    IcicleEaves x = frozen();
    hang(x, 5);
    row(x, 4, 5, 0, 6, 6, 6);
    hang(x, 7);
    row(x, 4, 12, 0, 1, 6, 6);
  }

  @Sentence(of = 0, says = "or none (told as 6)")
  static void noneIsToldAs6() {
    IcicleEaves x = make();
    row(x, 4, 0, 6, 6, 6, 6);
    IcicleEaves y = steady();
    hang(y, 1);
    row(y, 3, 5, 6, 6, 0);
  }

  @Sentence(of = 0, says = "so that these are together as LONG as can be: how LONG; the k-th of the first such row (rising).")
  static void theFirstOfLikeRows() {
    IcicleEaves x = frozen();
    hang(x, 5);
    hang(x, 7);
    hang(x, 7);
    row(x, 1, 7, 1);
    row(x, 2, 14, 1, 2);
    row(x, 3, 19, 0, 1, 2);
    row(x, 4, 19, 0, 1, 2, 6);
  }

  @Sentence(of = 0, says = "so that these are together as LONG as can be: how LONG; the k-th of the first such row (rising).")
  static void fourOfSixOfTheLongest() {
    IcicleEaves x = frozen();
    for (int i = 0; i < 6; i++) hang(x, 30);
    row(x, 4, 120, 0, 1, 2, 3);
    x.knocks(0);
    x.knocks(4);
    row(x, 4, 120, 1, 2, 3, 5);
  }

  @Sentence(of = 0, says = "so that these are together as LONG as can be: how LONG; the k-th of the first such row (rising).")
  static void oneThatGetsLongerWaitsForOneThatDoesNot() {
    IcicleEaves x = steady();
    x.roof(0, 0, 0);
    hang(x, 3);
    x.ice(1, 0, 0, 5, 40);
    row(x, 2, 10, 1, 0);
    row(x, 3, 12, 1, 6, 0);
  }

  // ---- 36: sticks

  @Sentence(of = 36, says = "STICKS: how many (k = NONE), the k-th. -5: not so many. BAD: -10.")
  static void sticksTakesNoneAtLeast() {
    IcicleEaves x = frozen();
    hang(x, 5);
    badAs(BAD_ROW, x, "sticks(-2)", () -> x.sticks(-2));
    badAs(BAD_ROW, x, "sticks(LOW)", () -> x.sticks(LOW));
    looks(x, "sticks(NONE)", () -> x.sticks(NONE), 1);
    looks(x, "sticks(0)", () -> x.sticks(0), 0);
  }

  @Sentence(of = 36, says = "-5: not so many. BAD: -10.")
  static void thereAreNotSoManyPairs() {
    IcicleEaves x = make();
    looks(x, "no icicles", () -> x.sticks(0), NOT_SO_MANY);
    IcicleEaves y = frozen();
    hang(y, 5);
    looks(y, "one pair", () -> y.sticks(1), NOT_SO_MANY);
    looks(y, "sticks(HIGH)", () -> y.sticks(HIGH), NOT_SO_MANY);
  }

  @Sentence(of = 0, says = "STICKS: two who knock name ICICLES i, j of those not LOST")
  static void noIciclesNoPairs() {
    IcicleEaves x = make();
    looks(x, "none there", () -> x.sticks(NONE), 0);
    IcicleEaves y = frozen();
    hang(y, 5);
    y.knocks(0);
    looks(y, "none that is not lost", () -> y.sticks(NONE), 0);
  }

  @Sentence(of = 0, says = "STICKS: two who knock name ICICLES i, j of those not LOST")
  static void oneLostIsNotNamed() {
    IcicleEaves x = frozen();
    hang(x, 30);
    hang(x, 5);
    hang(x, 4);
    x.knocks(0);
    looks(x, "sticks(NONE)", () -> x.sticks(NONE), 1);
    looks(x, "sticks(0)", () -> x.sticks(0), 12);
  }

  @Sentence(of = 0, says = "STICKS: two who knock name ICICLES i, j of those not LOST")
  static void oneLostIsNotNamedThoughTheOthersAreLostByThen() {
    IcicleEaves x = frozen();
    for (int i = 0; i < 3; i++) hang(x, 5, 4);
    x.knocks(1);
    looks(x, "sticks(NONE)", () -> x.sticks(NONE), 4);
    int[] want = {0, 2, 20, 22};
    for (int k = 0; k < 4; k++) {
      int asked = k;
      looks(x, "sticks(" + k + ")", () -> x.sticks(asked), want[k]);
    }
  }

  @Sentence(of = 0, says = "the one waits for 2 HOURS, the other for 3")
  static void theOneWaitsFor2HoursTheOtherFor3() {
    IcicleEaves x = steady();
    x.roof(0, 0, 0);
    x.ice(1, 0, 0, 10, 40);
    hang(x, 5);
    x.ice(1, 0, 0, 9, 40);
    // Behind 2 hours 10, 9, 9; behind 3 hours 10, 11, 9.
    looks(x, "sticks(NONE)", () -> x.sticks(NONE), 1);
    looks(x, "sticks(0)", () -> x.sticks(0), 1);
    IcicleEaves y = steady();
    y.roof(0, 0, 0);
    y.ice(1, 0, 0, 8, 40);
    hang(y, 5);
    y.ice(1, 0, 0, 10, 40);
    // Behind 2 hours 8, 9, 10; behind 3 hours 8, 11, 10.
    looks(y, "sticks(NONE)", () -> y.sticks(NONE), 1);
    looks(y, "sticks(0)", () -> y.sticks(0), 21);
  }

  @Sentence(of = 0, says = "each has as much as the own one is LONG then, if it is not LOST by then, else -1")
  static void oneLostByThenGivesMinus1() {
    IcicleEaves x = steady();
    hang(x, 20, 25);
    hang(x, 5);
    hang(x, 3);
    // 0 is 24 long behind 2 hours and fallen behind 3.
    looks(x, "sticks(NONE)", () -> x.sticks(NONE), 1);
    looks(x, "sticks(0)", () -> x.sticks(0), 1);
    IcicleEaves y = steady();
    hang(y, 20, 23);
    hang(y, 5);
    // 0 is fallen behind 2: the one has 1, the other has -1 by either.
    looks(y, "sticks(NONE)", () -> y.sticks(NONE), 2);
    looks(y, "sticks(0)", () -> y.sticks(0), 10);
    looks(y, "sticks(1)", () -> y.sticks(1), 11);
  }

  @Sentence(of = 0, says = "each has as much as the own one is LONG then, if it is not LOST by then, else -1")
  static void oneGoneByThenGivesMinus1() {
    IcicleEaves x = thawing();
    hang(x, 3);
    hang(x, 2);
    // Behind 2 hours 1 and gone; behind 3 both gone.
    looks(x, "sticks(NONE)", () -> x.sticks(NONE), 2);
    looks(x, "sticks(0)", () -> x.sticks(0), 0);
    looks(x, "sticks(1)", () -> x.sticks(1), 1);
  }

  @Sentence(of = 0, says = "(i being j, the other has -1)")
  static void bothAtOneIsGoodForTheFirstAlone() {
    IcicleEaves x = frozen();
    hang(x, 30);
    hang(x, 1);
    looks(x, "sticks(NONE)", () -> x.sticks(NONE), 1);
    looks(x, "the other takes what is left", () -> x.sticks(0), 1);
    IcicleEaves y = frozen();
    hang(y, 1);
    looks(y, "one alone", () -> y.sticks(0), 0);
  }

  @Sentence(of = 0, says = "pairs 10 i and j that rest (neither would get more by another one): how many; the k-th (rising).")
  static void allPairsOfSixLikeOnesButTheSame() {
    IcicleEaves x = frozen();
    for (int i = 0; i < 6; i++) hang(x, 5);
    looks(x, "sticks(NONE)", () -> x.sticks(NONE), 30);
    looks(x, "sticks(0)", () -> x.sticks(0), 1);
    looks(x, "sticks(4)", () -> x.sticks(4), 5);
    looks(x, "sticks(5)", () -> x.sticks(5), 10);
    looks(x, "sticks(29)", () -> x.sticks(29), 54);
    looks(x, "sticks(30)", () -> x.sticks(30), NOT_SO_MANY);
  }

  @Sentence(of = 0, says = "pairs 10 i and j that rest (neither would get more by another one): how many; the k-th (rising).")
  static void allPairsWhereAllAreLostByThen() {
    IcicleEaves x = frozen();
    for (int i = 0; i < 6; i++) hang(x, 5, 4);
    looks(x, "sticks(NONE)", () -> x.sticks(NONE), 36);
    looks(x, "sticks(0)", () -> x.sticks(0), 0);
    looks(x, "sticks(35)", () -> x.sticks(35), 55);
    looks(x, "sticks(36)", () -> x.sticks(36), NOT_SO_MANY);
  }
}
