/** Edges of the promises 9 to 17: hours that go by, what is told, what is undone, and what there is. */
final class HourEdges extends Edge {
  // ---- 9: hours

  @Sentence(of = 9, says = "n HOURS (1 .. 96;")
  static void hoursTakes1To96() {
    IcicleEaves x = steady();
    hang(x, 1);
    outside(x, "hours", 1, 96, IcicleEaves::hours);
    x.hours(1);
    due("count(2) behind 1", x.count(2), 1);
    x.hours(96);
    due("count(2) behind 96 more", x.count(2), 97);
  }

  /** At 9999, with 2 water an hour, and one that would fall. */
  private static IcicleEaves atTheLast() {
    IcicleEaves x = atHour(9999);
    for (int h = 0; h < 8; h++) x.warm(h, -1);
    x.roof(0, 3, 60);
    hang(x, 5, 6);
    return x;
  }

  @Sentence(of = 9, says = "at 9999 none goes by;")
  static void at9999NoneGoesBy() {
    IcicleEaves x = atTheLast();
    for (int n : new int[] {1, 96}) {
      due("hours(" + n + ")", x.hours(n), 1);
      due("count(2)", x.count(2), 9999);
      due("snow", x.about(0, 2), 60);
      due("long", x.of(0, 3), 5);
    }
  }

  @Sentence(of = 9, says = "at 9999 none goes by;")
  static void oneGoesByAt9998AndNoMore() {
    IcicleEaves x = atHour(9998);
    for (int h = 0; h < 8; h++) x.warm(h, -1);
    x.roof(0, 3, 60);
    hang(x, 5);
    due("hours(2)", x.hours(2), 1);
    due("snow", x.about(0, 2), 58);
    due("long", x.of(0, 3), 7);
  }

  @Sentence(of = 9, says = "together one that may be undone, also where none goes by)")
  static void hoursAreTogetherOneThatMayBeUndone() {
    IcicleEaves x = steady();
    hang(x, 1);
    long before = x.digest();
    x.hours(96);
    due("count(10)", x.count(10), 1);
    due("undo()", x.undo(), 0);
    due("digest()", x.digest(), before);
    no(x, "undo() again", x::undo);
  }

  @Sentence(of = 9, says = "together one that may be undone, also where none goes by)")
  static void hoursThatDoNotGoByMayBeUndone() {
    IcicleEaves x = atTheLast();
    x.hours(5);
    due("count(10)", x.count(10), 1);
    due("undo()", x.undo(), 9999);
    due("count(10)", x.count(10), 0);
  }

  @Sentence(of = 9, says = "together one that may be undone, also where none goes by)")
  static void hoursThatDoNotGoByPushOutWhatIsOldest() {
    IcicleEaves x = atTheLast();
    x.heats(0, 4);
    x.heats(0, 5);
    for (int k = 0; k < 7; k++) x.hours(1);
    due("count(10)", x.count(10), 8);
    for (int k = 0; k < 8; k++) due("undo() " + k, x.undo(), 9999);
    due("heat", x.about(0, 1), 4);
    no(x, "undo() of what is too old", x::undo);
  }

  @Sentence(of = 9, says = "how many are not LOST then.")
  static void hoursTellsHowManyAreNotLost() {
    IcicleEaves x = steady();
    due("none there", x.hours(1), 0);
    for (int i = 0; i < 6; i++) hang(x, 3 + i, 10);
    due("all six", x.hours(1), 6);
    due("two", x.hours(2), 2);
    due("none", x.hours(1), 0);
  }

  // ---- 10: snows

  @Sentence(of = 10, says = "SNOW falls on a ROOF, n (1 .. 60)")
  static void snowsTakesARoofAnd1To60() {
    IcicleEaves x = roofed(-1, 0, 0, 0);
    x.roof(0, 0, 0);
    outside(x, "roof", 0, 1, (y, r) -> y.snows(r, 1));
    outside(x, "n", 1, 60, (y, n) -> y.snows(0, n));
    due("snows(0, 1)", x.snows(0, 1), 1);
    due("snows(1, 60)", x.snows(1, 60), 60);
    due("of the other no more", x.about(0, 2), 1);
  }

  @Sentence(of = 10, says = "SNOW then (60 at most).")
  static void snowIs60AtMost() {
    for (int n : new int[] {1, 2, 3, 60}) {
      IcicleEaves x = roofed(-1, 0, 0, 58);
      due("58 and " + n, x.snows(0, n), Math.min(58 + n, 60));
      due("about(0, 2)", x.about(0, 2), Math.min(58 + n, 60));
    }
  }

  @Sentence(of = 10, says = "NO: there are 60.")
  static void noSnowOn60() {
    IcicleEaves x = roofed(-1, 0, 0, 59);
    due("on 59", x.snows(0, 1), 60);
    no(x, "on 60", () -> x.snows(0, 1));
    no(x, "on 60", () -> x.snows(0, 60));
    bad(x, "BAD ahead of NO", () -> x.snows(0, 61));
    due("count(10)", x.count(10), 1);
  }

  // ---- 11: heats

  @Sentence(of = 11, says = "HEAT of a ROOF: what it was. BAD; NO: it is so.")
  static void heatsTakesARoofAnd0To9() {
    IcicleEaves x = roofed(-1, 0, 4, 0);
    x.roof(0, 5, 0);
    outside(x, "roof", 0, 1, (y, r) -> y.heats(r, 1));
    outside(x, "heat", 0, 9, (y, e) -> y.heats(0, e));
    due("heats(0, 0)", x.heats(0, 0), 4);
    due("heats(0, 9)", x.heats(0, 9), 0);
    due("heats(1, 9)", x.heats(1, 9), 5);
    due("about(0, 1)", x.about(0, 1), 9);
  }

  @Sentence(of = 11, says = "HEAT of a ROOF: what it was. BAD; NO: it is so.")
  static void noHeatThatIsSo() {
    for (int e : new int[] {0, 9}) {
      IcicleEaves x = roofed(-1, 0, e, 0);
      no(x, "heats(0, " + e + ")", () -> x.heats(0, e));
    }
  }

  // ---- 12: knocks

  @Sentence(of = 12, says = "An ICICLE is KNOCKED off: how LONG it is.")
  static void knocksTakesAnIcicle() {
    IcicleEaves x = frozen();
    hang(x, 1);
    hang(x, 30);
    outside(x, "knocks", 0, 1, IcicleEaves::knocks);
    due("knocks(1)", x.knocks(1), 30);
    due("of(1, 5)", x.of(1, 5), KNOCKED);
    due("of(0, 5)", x.of(0, 5), 0);
    due("knocks(0)", x.knocks(0), 1);
  }

  @Sentence(of = 12, says = "BAD; NO: it is LOST.")
  static void noKnockAtOneLost() {
    IcicleEaves x = frozen();
    hang(x, 5);
    hang(x, 5, 4);
    x.knocks(0);
    no(x, "one knocked off", () -> x.knocks(0));
    x.hours(1);
    no(x, "one fallen", () -> x.knocks(1));
    IcicleEaves y = thawing();
    hang(y, 1);
    y.hours(1);
    no(y, "one gone", () -> y.knocks(0));
  }

  // ---- 13: undo

  @Sentence(of = 13, says = "UNDO: the HOUR then. NO: none may be.")
  static void noUndoWhereNoneMayBe() {
    IcicleEaves x = steady();
    no(x, "undo() of nothing", x::undo);
    x.hours(3);
    x.hours(2);
    due("undo()", x.undo(), 3);
    due("undo()", x.undo(), 0);
    no(x, "undo() behind the last", x::undo);
  }

  @Sentence(of = 13, says = "UNDO: the HOUR then. NO: none may be.")
  static void thereIsUndoAgainBehindNone() {
    IcicleEaves x = steady();
    hang(x, 5);
    x.hours(3);
    x.undo();
    no(x, "none may be", x::undo);
    x.heats(0, 9);
    x.hours(2);
    due("undo() of hours", x.undo(), 0);
    due("heat as told", x.about(0, 1), 9);
    due("long", x.of(0, 3), 5);
    due("undo() of heat", x.undo(), 0);
    due("heat", x.about(0, 1), 3);
    due("snow", x.about(0, 2), 60);
  }

  @Sentence(of = 0, says = "(8 at most; behind WARMTH told, a ROOF, an ICICLE that comes none may be).")
  static void eightMayBeUndoneAtMost() {
    IcicleEaves x = make();
    for (int k = 1; k <= 9; k++) {
      x.hours(1);
      due("count(10) behind " + k, x.count(10), Math.min(k, 8));
    }
    for (int k = 8; k >= 1; k--) due("undo()", x.undo(), k);
    no(x, "undo() of the 9th from the last", x::undo);
    x.hours(1);
    due("count(10) from 0 again", x.count(10), 1);
  }

  @Sentence(of = 0, says = "UNDO: SNOW, HEAT, LONG, LOST, the HOUR as ahead of the last HOURS gone by, SNOW that fell, HEAT told, ICICLE knocked off")
  static void eachOfTheFourMayBeUndone() {
    IcicleEaves x = roofed(-1, 0, 3, 50);
    hang(x, 5, 6);
    long[] digests = new long[4];
    digests[0] = x.digest();
    x.knocks(0);
    digests[1] = x.digest();
    x.snows(0, 60);
    digests[2] = x.digest();
    x.heats(0, 9);
    digests[3] = x.digest();
    x.hours(96);
    for (int k = 3; k >= 0; k--) {
      due("undo() " + k, x.undo(), 0);
      due("digest() " + k, x.digest(), digests[k]);
    }
  }

  @Sentence(of = 0, says = "UNDO: SNOW, HEAT, LONG, LOST, the HOUR as ahead of the last HOURS gone by, SNOW that fell, HEAT told, ICICLE knocked off")
  static void allThreeRoofsAndAllSixIciclesAreUndone() {
    IcicleEaves x = make();
    for (int r = 0; r < 3; r++) x.roof(0, 3 + r, 50);
    for (int i = 0; i < 6; i++) x.ice(i / 2, 0, 0, 5, i % 2 == 0 ? 6 : 40);
    long before = x.digest();
    due("hours(3)", x.hours(3), 3);
    x.undo();
    due("digest() behind the hours undone", x.digest(), before);
    for (int r = 0; r < 3; r++) {
      x.snows(r, 5);
      x.heats(r, 9);
      x.undo();
      x.undo();
      due("digest() behind roof " + r, x.digest(), before);
    }
    for (int i = 0; i < 6; i++) {
      x.knocks(i);
      x.undo();
      due("digest() behind icicle " + i, x.digest(), before);
    }
  }

  @Sentence(of = 0, says = "UNDO: SNOW, HEAT, LONG, LOST, the HOUR as ahead of the last HOURS gone by, SNOW that fell, HEAT told, ICICLE knocked off")
  static void undoneOnesHangAgainThatFellOrWereGone() {
    IcicleEaves x = steady();
    x.roof(0, 0, 0);
    hang(x, 5, 6);
    x.ice(1, 4, 0, 1, 6);
    x.warm(2, 5);
    due("hours(2)", x.hours(2), 0);
    due("undo()", x.undo(), 0);
    due("count(4)", x.count(4), 0);
    due("count(5)", x.count(5), 0);
    due("long", x.of(0, 3), 5);
    due("long", x.of(1, 3), 1);
    due("they are lost again", x.hours(2), 0);
  }

  @Sentence(of = 0, says = "(8 at most; behind WARMTH told, a ROOF, an ICICLE that comes none may be).")
  static void noneMayBeUndoneBehindWarmthTold() {
    IcicleEaves x = steady();
    x.hours(2);
    bad(x, "warm(8, 0), refused", () -> x.warm(8, 0));
    due("count(10) as it was", x.count(10), 1);
    x.warm(0, -1);
    due("count(10)", x.count(10), 0);
    no(x, "undo()", x::undo);
  }

  @Sentence(of = 0, says = "(8 at most; behind WARMTH told, a ROOF, an ICICLE that comes none may be).")
  static void noneMayBeUndoneBehindARoof() {
    IcicleEaves x = steady();
    x.roof(0, 0, 0);
    x.hours(2);
    bad(x, "roof(6, 0, 0), refused", () -> x.roof(6, 0, 0));
    due("count(10) as it was", x.count(10), 1);
    x.roof(0, 0, 0);
    due("count(10)", x.count(10), 0);
    x.hours(2);
    full(x, "a 4th roof, refused", () -> x.roof(0, 0, 0));
    due("count(10) as it was", x.count(10), 1);
  }

  @Sentence(of = 0, says = "(8 at most; behind WARMTH told, a ROOF, an ICICLE that comes none may be).")
  static void noneMayBeUndoneBehindAnIcicle() {
    IcicleEaves x = steady();
    x.hours(2);
    bad(x, "an icicle, refused", () -> hang(x, 0));
    due("count(10) as it was", x.count(10), 1);
    hang(x, 5);
    due("count(10)", x.count(10), 0);
    no(x, "undo()", x::undo);
  }

  @Sentence(of = 0, says = "UNDO: SNOW, HEAT, LONG, LOST, the HOUR as ahead of the last HOURS gone by, SNOW that fell, HEAT told, ICICLE knocked off")
  static void whatElseIsToldStaysAsItIsBehindUndo() {
    IcicleEaves x = steady();
    hang(x, 5, 6);
    x.hours(2);
    x.seen(0, 0, 0, 0);
    x.note(0, 1, 0, 0, 0);
    x.mark(0, 0, 0, 0, 0);
    x.type('h');
    x.odds(0, 0, 0);
    x.image(0);
    due("count(10)", x.count(10), 1);
    x.undo();
    for (int what : new int[] {7, 8, 9, 11}) due("count(" + what + ")", x.count(what), 1);
    x.hours(3);
    x.forget(0);
    x.forget(1);
    x.forget(2);
    x.clear();
    x.undo();
    for (int what : new int[] {7, 8, 9, 11}) due("count(" + what + ")", x.count(what), 0);
  }

  // ---- 14: of

  @Sentence(of = 14, says = "Of an ICICLE: ROOF (0), KIND (1), PLACE (2), LONG (3), ROOT (4), LOST (5). BAD.")
  static void ofTakesAnIcicleAnd0To5() {
    IcicleEaves x = steady();
    x.roof(0, 0, 0);
    x.ice(0, 0, 0, 1, 1);
    x.ice(1, 2, 3, 4, 5);
    outside(x, "icicle", 0, 1, (y, i) -> y.of(i, 0));
    outside(x, "what", 0, 5, (y, what) -> y.of(0, what));
    int[] want = {1, 2, 3, 4, 5, 0};
    for (int what = 0; what < 6; what++) {
      int asked = what;
      looks(x, "of(1, " + what + ")", () -> x.of(1, asked), want[what]);
    }
  }

  // ---- 15: more

  @Sentence(of = 15, says = "MORE. BAD: -100.")
  static void moreTakesAnIcicle() {
    IcicleEaves x = steady();
    badAs(-100, x, "none there", () -> x.more(0));
    hang(x, 1);
    hang(x, 1);
    outsideAs(-100, x, "more", 0, 1, IcicleEaves::more);
    looks(x, "more(1)", () -> x.more(1), 2);
  }

  @Sentence(of = 0, says = "BAD is told as -100 where MORE is asked.")
  static void minus2IsAnAnswerOfMore() {
    IcicleEaves x = roofed(2, 0, 0, 0);
    hang(x, 5);
    looks(x, "more(0)", () -> x.more(0), -2);
    badAs(-100, x, "more(1)", () -> x.more(1));
  }

  @Sentence(of = 0, says = "by how much it is longer by it (LOST or not).")
  static void moreOfOneLost() {
    IcicleEaves x = steady();
    hang(x, 5);
    hang(x, 5, 4);
    x.ice(0, 4, 0, 1, 40);
    x.knocks(0);
    looks(x, "knocked off", () -> x.more(0), 2);
    x.hours(1);
    looks(x, "fallen", () -> x.more(1), 2);
    x.warm(2, 5);
    x.hours(1);
    due("gone", x.of(2, 5), GONE);
    looks(x, "gone", () -> x.more(2), 2);
    x.warm(3, 5);
    looks(x, "gone, by 5", () -> x.more(2), -7);
  }

  @Sentence(of = 0, says = "WATER of a ROOF in the next HOUR, MORE of an ICICLE")
  static void moreAndWaterOfTheNextHourOfThe8() {
    IcicleEaves x = steady();
    hang(x, 9);
    x.warm(1, 3);
    x.warm(0, -2);
    looks(x, "more(0) by the hour 1", () -> x.more(0), -3);
    looks(x, "about(0, 3) by the hour 1", () -> x.about(0, 3), 6);
    x.hours(7);
    looks(x, "more(0) by the hour 8", () -> x.more(0), 1);
    looks(x, "about(0, 3) by the hour 8", () -> x.about(0, 3), 1);
  }

  // ---- 16: about

  @Sentence(of = 16, says = "Of a ROOF: KIND (0), HEAT (1), SNOW (2), WATER (3). BAD.")
  static void aboutTakesARoofAnd0To3() {
    IcicleEaves x = roofed(-1, 0, 0, 0);
    x.roof(1, 4, 50);
    outside(x, "roof", 0, 1, (y, r) -> y.about(r, 0));
    outside(x, "what", 0, 3, (y, what) -> y.about(0, what));
    int[] want = {1, 4, 50, 5};
    for (int what = 0; what < 4; what++) {
      int asked = what;
      looks(x, "about(1, " + what + ")", () -> x.about(1, asked), want[what]);
    }
  }

  // ---- 17: warmth

  @Sentence(of = 17, says = "WARMTH of the h-th of the 8 HOURS, and 9 (0 .. 18). BAD.")
  static void warmthTakesTheHours0To7() {
    IcicleEaves x = make();
    outside(x, "warmth", 0, 7, IcicleEaves::warmth);
    looks(x, "warmth(0)", () -> x.warmth(0), 8);
    looks(x, "warmth(7)", () -> x.warmth(7), 8);
  }

  @Sentence(of = 17, says = "WARMTH of the h-th of the 8 HOURS, and 9 (0 .. 18). BAD.")
  static void warmthIs0To18() {
    IcicleEaves x = make();
    for (int w = -9; w <= 9; w++) {
      x.warm(5, w);
      due("warmth(5) by " + w, x.warmth(5), w + 9);
    }
  }
}
