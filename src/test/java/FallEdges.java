/** Edges of the promises 18 to 24: how long, which falls, when to go below, by which heat, when longest. */
final class FallEdges extends Edge {
  private static final int STEEP = 5;

  // ---- beyond 9999

  /** At 9999, 2 water an hour; one over place 4 that falls behind 5 hours. */
  private static IcicleEaves late() {
    IcicleEaves x = atHour(9999);
    for (int h = 0; h < 8; h++) x.warm(h, -1);
    x.roof(0, 3, 60);
    x.ice(0, 0, 4, 1, 10);
    return x;
  }

  @Sentence(of = 0, says = "(Nothing is changed by these; HOURS go beyond 9999 in them.)")
  static void looksAheadGoBeyond9999() {
    IcicleEaves x = late();
    looks(x, "about(0, 3)", () -> x.about(0, 3), 2);
    looks(x, "more(0)", () -> x.more(0), 2);
    looks(x, "ahead(0, 96, 0)", () -> x.ahead(0, 96, 0), 11);
    looks(x, "ahead(0, 96, 1)", () -> x.ahead(0, 96, 1), FALLEN);
    looks(x, "fall(0)", () -> x.fall(0), 5);
    looks(x, "first()", x::first, 0);
    looks(x, "path()", x::path, 1);
    looks(x, "peak(0, 0)", () -> x.peak(0, 0), 4);
    looks(x, "peak(0, 1)", () -> x.peak(0, 1), 9);
    looks(x, "most(4, NONE)", () -> x.most(4, NONE), 7);
    looks(x, "winters(0, 4)", () -> x.winters(0, 4), 0);
    looks(x, "winters(0, 5)", () -> x.winters(0, 5), 1);
    due("count(2)", x.count(2), 9999);
  }

  @Sentence(of = 0, says = "(Nothing is changed by these; HOURS go beyond 9999 in them.)")
  static void orderSticksAndOddsGoBeyond9999() {
    IcicleEaves x = late();
    x.ice(0, 0, 0, 2, 5);
    looks(x, "order(0): the 2nd falls first", () -> x.order(0), 1);
    looks(x, "sticks(NONE): the 2nd is lost by then", () -> x.sticks(NONE), 2);
    looks(x, "sticks(1)", () -> x.sticks(1), 1);
    due("odds(1, 2, 0)", x.odds(1, 2, 0), 1);
    due("it falls in 2 hours", x.part(0), 1);
    due("count(2)", x.count(2), 9999);
  }

  @Sentence(of = 0, says = "(Nothing is changed by these; HOURS go beyond 9999 in them.)")
  static void leastGoesBeyond9999() {
    IcicleEaves x = late();
    x.roof(STEEP, 0, 60);
    x.ice(1, 0, 0, 1, 40);
    looks(x, "least(1)", () -> x.least(1), NONE);
  }

  @Sentence(of = 0, says = "(Nothing is changed by these; HOURS go beyond 9999 in them.)")
  static void theHourBehind9999IsThe0thOfThe8() {
    IcicleEaves x = late();
    x.warm(0, 5);
    looks(x, "more(0)", () -> x.more(0), -5);
    looks(x, "ahead(0, 1, 1)", () -> x.ahead(0, 1, 1), GONE);
    looks(x, "fall(0)", () -> x.fall(0), NONE);
  }

  @Sentence(of = 0, says = "(Nothing is changed by these; HOURS go beyond 9999 in them.)")
  static void nothingIsChangedByAnyLook() {
    IcicleEaves x = steady();
    x.ice(0, 0, 4, 1, 10);
    x.ice(0, 0, 0, 2, 5);
    looks(x, "about(0, 3)", () -> x.about(0, 3), 2);
    looks(x, "more(1)", () -> x.more(1), 2);
    looks(x, "ahead(1, 2, 0)", () -> x.ahead(1, 2, 0), 6);
    looks(x, "fall(0)", () -> x.fall(0), 5);
    looks(x, "first()", x::first, 1);
    looks(x, "order(1)", () -> x.order(1), 0);
    looks(x, "path()", x::path, 2);
    looks(x, "least(0)", () -> x.least(0), 0);
    looks(x, "peak(1, 1)", () -> x.peak(1, 1), 4);
    looks(x, "most(2, NONE)", () -> x.most(2, NONE), 5);
    looks(x, "sticks(0)", () -> x.sticks(0), 0);
    looks(x, "winters(0, 60)", () -> x.winters(0, 60), 2);
  }

  /** Three roofs, of which the last gives 2 water an hour; six icicles on it that fall behind 6, 5, .. 1 hours. */
  private static IcicleEaves fullHouse() {
    IcicleEaves x = make();
    x.roof(0, 0, 0);
    x.roof(0, 0, 0);
    x.roof(0, 3, 60);
    for (int i = 0; i < 6; i++) x.ice(2, 0, 7, 5, 4 + 2 * (6 - i));
    return x;
  }

  @Sentence(of = 0, says = "ICICLES 0 .. 5, as they come")
  static void looksAtTheLastOfSixIcicles() {
    IcicleEaves x = fullHouse();
    looks(x, "more(5)", () -> x.more(5), 2);
    looks(x, "ahead(5, 96, 0)", () -> x.ahead(5, 96, 0), 7);
    looks(x, "fall(5)", () -> x.fall(5), 1);
    looks(x, "first()", x::first, 5);
    for (int k = 0; k < 6; k++) {
      int asked = k;
      looks(x, "order(" + k + ")", () -> x.order(asked), 5 - k);
    }
    looks(x, "path()", x::path, 0);
    looks(x, "peak(5, 1)", () -> x.peak(5, 1), 5);
    looks(x, "peak(0, 1)", () -> x.peak(0, 1), 15);
    looks(x, "is(5)", () -> x.is(5), 63);
    looks(x, "look(5)", () -> x.look(5), 1);
    looks(x, "winters(0, 6)", () -> x.winters(0, 6), 6);
    due("odds(5, 1, 0)", x.odds(5, 1, 0), 1);
    due("above", x.part(0), 1);
    due("hours(5)", x.hours(5), 1);
    due("count(4)", x.count(4), 62);
  }

  @Sentence(of = 0, says = "ROOFS 0 .. 2, as they come")
  static void looksAtTheLastOfThreeRoofs() {
    IcicleEaves x = fullHouse();
    looks(x, "about(2, 3)", () -> x.about(2, 3), 2);
    looks(x, "least(2)", () -> x.least(2), 0);
    looks(x, "warms(2)", () -> x.warms(2), 1023);
    looks(x, "tell(2)", () -> x.tell(2), 9);
    looks(x, "kinds(2)", () -> x.kinds(2), 63);
    looks(x, "ask(2)", () -> x.ask(2), 702);
    looks(x, "count(6)", () -> x.count(6), 60);
  }

  @Sentence(of = 0, says = "ICICLES 0 .. 5, as they come")
  static void knocksAndSticksAtSixIcicles() {
    IcicleEaves x = fullHouse();
    // Ahead of the hours 1 .. 4 they are 5, 7, 9, 11 long, and 6, 5, 4, 3 of them hang.
    int[] row = {0, 1, 3, 2};
    looks(x, "most(4, NONE)", () -> x.most(4, NONE), 32);
    for (int k = 0; k < 4; k++) {
      int asked = k;
      looks(x, "most(4, " + k + ")", () -> x.most(4, asked), row[k]);
    }
    // Behind 2 hours 0 .. 3 hang, behind 3 hours 0 .. 2.
    looks(x, "sticks(NONE)", () -> x.sticks(NONE), 9);
    looks(x, "sticks(0)", () -> x.sticks(0), 1);
    looks(x, "sticks(8)", () -> x.sticks(8), 32);
  }

  // ---- 18: ahead

  @Sentence(of = 18, says = "AHEAD: how LONG (0), LOST (1). BAD.")
  static void aheadTakesAnIcicleAndWhat0To1() {
    IcicleEaves x = steady();
    bad(x, "none there", () -> x.ahead(0, 0, 0));
    hang(x, 1);
    hang(x, 3);
    outside(x, "icicle", 0, 1, (y, i) -> y.ahead(i, 1, 0));
    outside(x, "what", 0, 1, (y, what) -> y.ahead(0, 1, what));
    looks(x, "ahead(1, 1, 0)", () -> x.ahead(1, 1, 0), 5);
    looks(x, "ahead(1, 1, 1)", () -> x.ahead(1, 1, 1), 0);
  }

  @Sentence(of = 0, says = "behind m (0 .. 96) HOURS.")
  static void aheadTakes0To96() {
    IcicleEaves x = rare();
    hang(x, 1);
    outside(x, "m", 0, 96, (y, m) -> y.ahead(0, m, 0));
    looks(x, "behind 0", () -> x.ahead(0, 0, 0), 1);
    looks(x, "behind 95", () -> x.ahead(0, 95, 0), 12);
    looks(x, "behind 96", () -> x.ahead(0, 96, 0), 13);
  }

  @Sentence(of = 0, says = "whether LOST (0 .. 3)")
  static void aheadTellsEachWayToBeLost() {
    IcicleEaves x = thawing();
    hang(x, 9);
    hang(x, 9);
    hang(x, 9, 7);
    hang(x, 1);
    x.knocks(1);
    int[] now = {0, KNOCKED, 0, 0}, then = {0, KNOCKED, FALLEN, GONE}, length = {8, 9, 8, 0};
    for (int i = 0; i < 4; i++) {
      due("ahead(" + i + ", 0, 1)", x.ahead(i, 0, 1), now[i]);
      due("ahead(" + i + ", 1, 1)", x.ahead(i, 1, 1), then[i]);
      due("ahead(" + i + ", 1, 0)", x.ahead(i, 1, 0), length[i]);
    }
  }

  // ---- 19: fall

  @Sentence(of = 19, says = "FALL. NONE. BAD.")
  static void fallTakesAnIcicle() {
    IcicleEaves x = steady();
    bad(x, "none there", () -> x.fall(0));
    hang(x, 1);
    hang(x, 9, 10);
    outside(x, "fall", 0, 1, IcicleEaves::fall);
    looks(x, "fall(1)", () -> x.fall(1), 1);
  }

  @Sentence(of = 0, says = "FALL: behind how many HOURS (1 .. 96) one FALLS")
  static void fallIs1AtLeastAnd96AtMost() {
    IcicleEaves x = rare();
    hang(x, 30, 29);
    hang(x, 1, 12);
    hang(x, 1, 13);
    looks(x, "too long from the first", () -> x.fall(0), 1);
    looks(x, "in the 96th", () -> x.fall(1), 96);
    looks(x, "behind the 96th", () -> x.fall(2), NONE);
  }

  @Sentence(of = 0, says = "FALL: behind how many HOURS (1 .. 96) one FALLS")
  static void oneThatFallsInThe97thDoesNotCount() {
    IcicleEaves x = rare();
    x.hours(7);
    hang(x, 1, 12);
    hang(x, 1, 13);
    looks(x, "in the 89th", () -> x.fall(0), 89);
    looks(x, "in the 97th", () -> x.fall(1), NONE);
    x.hours(1);
    looks(x, "in the 96th by now", () -> x.fall(1), 96);
  }

  @Sentence(of = 0, says = "none (LOST already, too).")
  static void oneLostDoesNotFall() {
    IcicleEaves x = frozen();
    hang(x, 5, 4);
    hang(x, 5, 4);
    x.knocks(0);
    looks(x, "knocked off", () -> x.fall(0), NONE);
    x.hours(1);
    looks(x, "fallen", () -> x.fall(1), NONE);
    IcicleEaves y = thawing();
    hang(y, 1, 4);
    looks(y, "gone by then", () -> y.fall(0), NONE);
    y.hours(1);
    looks(y, "gone", () -> y.fall(0), NONE);
  }

  // ---- 20: first

  @Sentence(of = 20, says = "FIRST. NONE.")
  static void firstIsNoneWhereNoneFalls() {
    IcicleEaves x = make();
    looks(x, "no icicles", x::first, NONE);
    IcicleEaves y = frozen();
    hang(y, 5);
    looks(y, "none falls", y::first, NONE);
    hang(y, 5, 4);
    y.knocks(1);
    looks(y, "one lost does not fall", y::first, NONE);
    IcicleEaves z = rare();
    z.hours(7);
    hang(z, 1, 13);
    looks(z, "in the 97th hour", z::first, NONE);
    hang(z, 2, 13);
    looks(z, "in the 89th hour", z::first, 1);
  }

  @Sentence(of = 20, says = "FIRST. NONE.")
  static void oneThatFallsInThe96thIsFirst() {
    IcicleEaves x = rare();
    hang(x, 1, 13);
    hang(x, 1, 12);
    looks(x, "in the 96th hour", x::first, 1);
  }

  @Sentence(of = 0, says = "FIRST: which FALLS first, of like ones the least number; none.")
  static void ofLikeOnesTheLeastFallsFirst() {
    IcicleEaves x = steady();
    hang(x, 1, 40);
    hang(x, 5, 9);
    hang(x, 6, 9);
    hang(x, 4, 8);
    looks(x, "2 is ahead of 1 and 3", x::first, 2);
    x.knocks(2);
    looks(x, "1 and 3 at once", x::first, 1);
    x.knocks(1);
    looks(x, "3", x::first, 3);
    x.knocks(3);
    looks(x, "0 alone is left", x::first, 0);
  }

  // ---- 21: order

  @Sentence(of = 21, says = "ORDER: the k-th. BAD: k below 0; NO: not so many.")
  static void orderTakes0ToOneLessThanThereAre() {
    IcicleEaves x = frozen();
    no(x, "none there", () -> x.order(0));
    for (int i = 0; i < 6; i++) hang(x, 5);
    bad(x, "order(-1)", () -> x.order(-1));
    bad(x, "order(LOW)", () -> x.order(LOW));
    looks(x, "order(0)", () -> x.order(0), 0);
    looks(x, "order(5)", () -> x.order(5), 5);
    no(x, "order(6)", () -> x.order(6));
    no(x, "order(HIGH)", () -> x.order(HIGH));
    x.knocks(0);
    looks(x, "order(0) of those left", () -> x.order(0), 1);
    looks(x, "order(4) of those left", () -> x.order(4), 5);
    no(x, "order(5) of those left", () -> x.order(5));
  }

  @Sentence(of = 0, says = "ORDER: ICICLES not LOST by FALL, those without behind all others, of like ones by numbers: the k-th.")
  static void thoseThatDoNotFallAreBehindAllOthers() {
    IcicleEaves x = rare();
    hang(x, 1, 40);
    hang(x, 1, 12);
    hang(x, 1, 13);
    hang(x, 1, 1);
    hang(x, 1, 12);
    hang(x, 1, 1);
    // 3 and 5 fall behind 8 hours, 1 and 4 behind 96, the others not.
    int[] want = {3, 5, 1, 4, 0, 2};
    for (int k = 0; k < 6; k++) due("order(" + k + ")", x.order(k), want[k]);
    x.hours(8);
    // 2 falls behind 96 by now.
    int[] left = {1, 4, 2, 0};
    for (int k = 0; k < 4; k++) due("order(" + k + ") of those left", x.order(k), left[k]);
  }

  @Sentence(of = 0, says = "ORDER: ICICLES not LOST by FALL, those without behind all others, of like ones by numbers: the k-th.")
  static void oneThatFallsInThe97thIsOneWithout() {
    IcicleEaves x = rare();
    x.hours(7);
    hang(x, 1, 40);
    hang(x, 1, 13);
    looks(x, "order(0)", () -> x.order(0), 0);
    looks(x, "order(1)", () -> x.order(1), 1);
    x.hours(1);
    looks(x, "order(0): it falls in the 96th by now", () -> x.order(0), 1);
  }

  // ---- 22: path

  @Sentence(of = 22, says = "PATH. NONE.")
  static void pathIs0WhereNoneFalls() {
    IcicleEaves x = make();
    looks(x, "no icicles", x::path, 0);
    IcicleEaves y = frozen();
    for (int p = 0; p < 6; p++) y.ice(0, 0, p, 5, 40);
    looks(y, "none falls", y::path, 0);
  }

  /** Long 5, falling behind the hours told. */
  private static void fallingBehind(IcicleEaves x, int hours, int place) { x.ice(0, 0, place, 5, 4 + 2 * hours); }

  private static void pathOf(int hours, int place, int want) {
    IcicleEaves x = steady();
    fallingBehind(x, hours, place);
    due("fall", x.fall(0), hours);
    due("path where one over " + place + " falls behind " + hours, x.path(), want);
  }

  @Sentence(of = 0, says = "PATH: who sets out behind b HOURS is at PLACE p, from 0 to 7, in the HOUR b and p and 1 from now")
  static void whoSetsOutNowIsAtPlaceInTheHourBehindIt() {
    pathOf(1, 0, 1);
    pathOf(2, 0, 0);
    pathOf(1, 1, 0);
    pathOf(2, 1, 1);
    pathOf(3, 1, 0);
    pathOf(7, 7, 0);
    pathOf(8, 7, 1);
    pathOf(9, 7, 0);
  }

  @Sentence(of = 0, says = "the least b (0 .. 24) so that in none of these 8 HOURS an ICICLE FALLS that is over the PLACE of that HOUR; none.")
  static void sixIciclesHitWhoSetsOutBehind0To5() {
    IcicleEaves x = steady();
    for (int b = 0; b < 6; b++) {
      due("path ahead of the one that falls behind " + (b + 1), x.path(), b);
      fallingBehind(x, b + 1, 0);
    }
    looks(x, "path()", x::path, 6);
    x.knocks(3);
    looks(x, "one knocked off", x::path, 3);
  }

  @Sentence(of = 0, says = "the least b (0 .. 24) so that in none of these 8 HOURS an ICICLE FALLS that is over the PLACE of that HOUR; none.")
  static void sixIciclesOverOtherPlacesHitToo() {
    IcicleEaves x = steady();
    for (int b = 5; b >= 0; b--) fallingBehind(x, 8, 7 - b);
    // All fall behind 8 hours, over the places 2 .. 7: who sets out behind 0 .. 5 is hit.
    looks(x, "path()", x::path, 6);
    x.hours(1);
    looks(x, "an hour later", x::path, 5);
  }

  @Sentence(of = 0, says = "the least b (0 .. 24) so that in none of these 8 HOURS an ICICLE FALLS that is over the PLACE of that HOUR; none.")
  static void oneGoneOrFallenDoesNotHit() {
    IcicleEaves x = thawing();
    x.ice(0, 0, 0, 1, 40);
    looks(x, "one gone in that hour", x::path, 0);
    IcicleEaves y = frozen();
    y.ice(0, 0, 0, 5, 4);
    looks(y, "it falls", y::path, 1);
    y.hours(1);
    looks(y, "it fell", y::path, 0);
  }

  // ---- 23: least

  @Sentence(of = 23, says = "LEAST. NONE. BAD.")
  static void leastTakesARoof() {
    IcicleEaves x = make();
    bad(x, "none there", () -> x.least(0));
    x.roof(0, 9, 60);
    x.roof(0, 9, 60);
    outside(x, "least", 0, 1, IcicleEaves::least);
    looks(x, "least(1) without icicles", () -> x.least(1), 0);
  }

  @Sentence(of = 0, says = "LEAST for a ROOF: the least HEAT (0 .. 9) by which, told now, none of those on it FALLS within 48 HOURS; none.")
  static void leastIs0WhereNoneFallsByHeat0() {
    IcicleEaves x = roofed(-1, 0, 9, 60);
    hang(x, 5, 5);
    due("it falls by the heat as it is", x.fall(0), 1);
    looks(x, "least(0)", () -> x.least(0), 0);
    due("the heat stays", x.about(0, 1), 9);
  }

  @Sentence(of = 0, says = "LEAST for a ROOF: the least HEAT (0 .. 9) by which, told now, none of those on it FALLS within 48 HOURS; none.")
  static void leastIsNoneWhereOneFallsByAnyHeat() {
    IcicleEaves x = frozen();
    hang(x, 5, 4);
    looks(x, "one too long", () -> x.least(0), NONE);
    IcicleEaves y = roofed(-1, STEEP, 0, 41);
    hang(y, 1);
    looks(y, "all of the snow comes", () -> y.least(0), NONE);
    IcicleEaves z = roofed(-1, STEEP, 9, 40);
    hang(z, 1);
    looks(z, "it does not", () -> z.least(0), 0);
  }

  @Sentence(of = 0, says = "LEAST for a ROOF: the least HEAT (0 .. 9) by which, told now, none of those on it FALLS within 48 HOURS; none.")
  static void thoseOnOtherRoofsAndThoseLostDoNotCount() {
    IcicleEaves x = frozen();
    x.roof(0, 0, 60);
    hang(x, 5, 4);
    looks(x, "one too long on the other", () -> x.least(1), 0);
    looks(x, "one too long on it", () -> x.least(0), NONE);
    x.knocks(0);
    looks(x, "it is knocked off", () -> x.least(0), 0);
    x.undo();
    x.hours(1);
    looks(x, "it is fallen", () -> x.least(0), 0);
  }

  @Sentence(of = 0, says = "LEAST for a ROOF: the least HEAT (0 .. 9) by which, told now, none of those on it FALLS within 48 HOURS; none.")
  static void theLastOfSixIciclesCountsToo() {
    IcicleEaves x = frozen();
    for (int i = 0; i < 5; i++) hang(x, 5);
    looks(x, "five that hang", () -> x.least(0), 0);
    hang(x, 5, 4);
    looks(x, "a sixth that falls", () -> x.least(0), NONE);
  }

  // ---- 24: peak

  @Sentence(of = 24, says = "PEAK: behind how many HOURS (0), how LONG (1). NONE. BAD.")
  static void peakTakesAnIcicleAndWhat0To1() {
    IcicleEaves x = steady();
    bad(x, "none there", () -> x.peak(0, 0));
    hang(x, 1, 10);
    hang(x, 1, 12);
    outside(x, "icicle", 0, 1, (y, i) -> y.peak(i, 0));
    outside(x, "what", 0, 1, (y, what) -> y.peak(0, what));
    looks(x, "peak(1, 0)", () -> x.peak(1, 0), 5);
    looks(x, "peak(1, 1)", () -> x.peak(1, 1), 11);
  }

  @Sentence(of = 0, says = "PEAK of an ICICLE: behind how many HOURS (0 .. 48) it is LONGEST, not LOST")
  static void peakIs0AtLeastAnd48AtMost() {
    IcicleEaves x = rare();
    hang(x, 1);
    looks(x, "longest behind 48", () -> x.peak(0, 0), 48);
    looks(x, "how long", () -> x.peak(0, 1), 7);
    x.hours(7);
    looks(x, "not behind 49", () -> x.peak(0, 0), 41);
    looks(x, "how long", () -> x.peak(0, 1), 7);
    IcicleEaves y = thawing();
    hang(y, 30);
    looks(y, "longest now", () -> y.peak(0, 0), 0);
    looks(y, "how long", () -> y.peak(0, 1), 30);
  }

  @Sentence(of = 0, says = "PEAK of an ICICLE: behind how many HOURS (0 .. 48) it is LONGEST, not LOST")
  static void oneFallenIsNotLongest() {
    IcicleEaves x = steady();
    hang(x, 5, 8);
    looks(x, "ahead of its fall", () -> x.peak(0, 0), 1);
    looks(x, "how long", () -> x.peak(0, 1), 7);
    hang(x, 30, 29);
    looks(x, "too long from the first", () -> x.peak(1, 0), 0);
    looks(x, "how long", () -> x.peak(1, 1), 30);
  }

  @Sentence(of = 0, says = "of like ones the least; how LONG; none: LOST.")
  static void ofLikePeaksTheLeast() {
    IcicleEaves x = frozen();
    hang(x, 5);
    looks(x, "as long all the time", () -> x.peak(0, 0), 0);
    IcicleEaves y = roofed(-1, 0, 3, 3);
    hang(y, 5);
    looks(y, "as long from the 2nd hour on", () -> y.peak(0, 0), 2);
    looks(y, "how long", () -> y.peak(0, 1), 8);
  }

  @Sentence(of = 0, says = "of like ones the least; how LONG; none: LOST.")
  static void oneLostHasNoPeak() {
    IcicleEaves x = frozen();
    hang(x, 5);
    hang(x, 5, 4);
    x.knocks(0);
    x.hours(1);
    IcicleEaves y = thawing();
    hang(y, 1);
    y.hours(1);
    for (int what = 0; what < 2; what++) {
      int asked = what;
      looks(x, "knocked off, " + what, () -> x.peak(0, asked), NONE);
      looks(x, "fallen, " + what, () -> x.peak(1, asked), NONE);
      looks(y, "gone, " + what, () -> y.peak(0, asked), NONE);
    }
    bad(x, "BAD ahead of NONE", () -> x.peak(0, 2));
  }
}
