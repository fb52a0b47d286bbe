/** Edges that the Terms name: hours, warmth, roofs, icicles, and what an hour does. */
final class TermEdges extends Edge {
  // ---- hours and warmth

  @Sentence(of = 0, says = "HOURS have numbers, 0 at first")
  static void theHourIs0AtFirst() {
    IcicleEaves x = make();
    due("count(2)", x.count(2), 0);
    x.hours(1);
    due("count(2) behind one", x.count(2), 1);
  }

  @Sentence(of = 0, says = "(9999 at most)")
  static void theHourIs9999AtMost() {
    IcicleEaves x = atHour(9998);
    due("count(2)", x.count(2), 9998);
    x.hours(1);
    due("count(2)", x.count(2), 9999);
    x.hours(1);
    due("count(2) behind one more", x.count(2), 9999);
    x.hours(96);
    due("count(2) behind 96 more", x.count(2), 9999);
  }

  @Sentence(of = 0, says = "(9999 at most)")
  static void hoursThatWouldGoBeyond9999EndThere() {
    for (int n : new int[] {14, 15, 16, 96}) {
      IcicleEaves x = atHour(9984);
      x.hours(n);
      due("count(2) behind " + n, x.count(2), Math.min(9984 + n, 9999));
    }
  }

  @Sentence(of = 0, says = "-1 at first")
  static void warmthIsMinus1AtFirst() {
    IcicleEaves x = make();
    for (int h = 0; h < 8; h++) due("warmth(" + h + ")", x.warmth(h), 8);
    x.roof(0, 3, 60);
    due("water by -1 and heat 3", x.about(0, 3), 2);
  }

  @Sentence(of = 0, says = "WARMTH is told of each of 8 HOURS that come round (-9 ..")
  static void warmthIsMinus9AtLeast() {
    IcicleEaves x = make();
    due("house(-9)", x.house(-9), 0);
    due("warmth(0)", x.warmth(0), 0);
    due("warm(7, -9)", x.warm(7, -9), 1);
    bad(x, "house(-10)", () -> x.house(-10));
    bad(x, "warm(7, -10)", () -> x.warm(7, -10));
  }

  @Sentence(of = 0, says = "WARMTH is told of each of 8 HOURS that come round (-9 ..")
  static void warmthIs9AtMost() {
    IcicleEaves x = make();
    due("house(9)", x.house(9), 0);
    due("warmth(0)", x.warmth(0), 18);
    due("warm(7, 9)", x.warm(7, 9), 1);
    bad(x, "house(10)", () -> x.house(10));
    bad(x, "warm(7, 10)", () -> x.warm(7, 10));
  }

  /** The h-th of the 8 gives h and 1 water. */
  private static void eachHourItsOwnWater(IcicleEaves x) {
    for (int h = 0; h < 8; h++) x.warm(h, h + 1);
    x.roof(0, 0, 60);
  }

  @Sentence(of = 0, says = "that of an HOUR is that of its number by 8, what is left over.")
  static void hoursComeRoundBy8() {
    IcicleEaves x = make();
    eachHourItsOwnWater(x);
    int[] water = {2, 3, 4, 5, 6, 7, 8, 1, 2, 3, 4, 5, 6, 7, 8, 1, 2, 3};
    for (int hour = 0; hour < water.length; hour++) {
      x.snows(0, 60);
      due("water that comes next at the hour " + hour, x.about(0, 3), water[hour]);
      x.hours(1);
      due("snow behind the hour " + (hour + 1), x.about(0, 2), 60 - water[hour]);
    }
  }

  @Sentence(of = 0, says = "that of an HOUR is that of its number by 8, what is left over.")
  static void theHour9999IsThe7thOfThe8() {
    IcicleEaves x = atHour(9998);
    eachHourItsOwnWater(x);
    due("water in the hour 9999", x.about(0, 3), 8);
    x.hours(1);
    due("snow", x.about(0, 2), 52);
    due("water in the hour 10000, the 0th", x.about(0, 3), 1);
  }

  // ---- roofs and icicles

  @Sentence(of = 0, says = "ROOFS 0 .. 2, as they come")
  static void roofsHaveTheNumbers0To2() {
    IcicleEaves x = make();
    for (int r = 0; r < 3; r++) {
      int next = r;
      bad(x, "about a roof that is yet to come: " + r, () -> x.about(next, 0));
      due("roof " + r, x.roof(r + 1, 0, 0), r);
      due("kind of roof " + r, x.about(r, 0), r + 1);
    }
    bad(x, "about(3, 0)", () -> x.about(3, 0));
    bad(x, "about(-1, 0)", () -> x.about(-1, 0));
  }

  @Sentence(of = 0, says = "a KIND, HEAT (0 .. 9), SNOW (0 .. 60).")
  static void aRoofOfTheLeastAndOneOfTheMost() {
    IcicleEaves x = make();
    due("least", x.roof(0, 0, 0), 0);
    due("most", x.roof(5, 9, 60), 1);
    int[] want = {0, 0, 0, 5, 9, 60};
    for (int k = 0; k < 6; k++) due("about(" + k / 3 + ", " + k % 3 + ")", x.about(k / 3, k % 3), want[k]);
  }

  @Sentence(of = 0, says = "ICICLES 0 .. 5, as they come")
  static void iciclesHaveTheNumbers0To5() {
    IcicleEaves x = frozen();
    for (int i = 0; i < 6; i++) {
      int next = i;
      bad(x, "of an icicle that is yet to come: " + i, () -> x.of(next, 0));
      due("icicle " + i, hang(x, i + 1), i);
      due("long of icicle " + i, x.of(i, 3), i + 1);
    }
    bad(x, "of(6, 0)", () -> x.of(6, 0));
    bad(x, "of(-1, 0)", () -> x.of(-1, 0));
  }

  @Sentence(of = 0, says = "over a PLACE (0 .. 7), LONG (1 .. 30), a ROOT that holds (1 .. 40)")
  static void anIcicleOfTheLeastAndOneOfTheMost() {
    IcicleEaves x = frozen();
    x.roof(0, 0, 0);
    x.roof(0, 0, 0);
    due("least", x.ice(0, 0, 0, 1, 1), 0);
    due("most", x.ice(2, 5, 7, 30, 40), 1);
    int[] want = {0, 0, 0, 1, 1, 0, 2, 5, 7, 30, 40, 0};
    for (int k = 0; k < 12; k++) due("of(" + k / 6 + ", " + k % 6 + ")", x.of(k / 6, k % 6), want[k]);
  }

  @Sentence(of = 0, says = "LOST (0 at first)")
  static void anIcicleIsNotLostAtFirst() {
    IcicleEaves x = frozen();
    hang(x, 5);
    x.knocks(0);
    x.house(-1);
    x.roof(0, 0, 60);
    hang(x, 5);
    due("LOST of one that comes where a lost one was", x.of(0, 5), 0);
  }

  @Sentence(of = 0, says = "LONG is as it was as it was LOST then")
  static void oneKnockedOffStaysAsLong() {
    IcicleEaves x = steady();
    hang(x, 5);
    x.knocks(0);
    x.hours(3);
    due("long", x.of(0, 3), 5);
    due("lost", x.of(0, 5), KNOCKED);
  }

  @Sentence(of = 0, says = "LONG is as it was as it was LOST then")
  static void oneFallenStaysAsLong() {
    IcicleEaves x = steady();
    hang(x, 5, 6);
    x.hours(3);
    due("long", x.of(0, 3), 7);
    due("lost", x.of(0, 5), FALLEN);
  }

  @Sentence(of = 0, says = "LONG is as it was as it was LOST then")
  static void oneFallenMayBeLongerThan40() {
    IcicleEaves x = roofed(-9, 5, 0, 60);
    x.ice(0, 5, 0, 30, 40);
    x.hours(1);
    due("30 and twice 61", x.of(0, 3), 152);
  }

  @Sentence(of = 0, says = "0 of one GONE.")
  static void oneGoneIsLong0() {
    IcicleEaves x = roofed(9, 0, 0, 0);
    hang(x, 5);
    x.hours(1);
    due("long", x.of(0, 3), 0);
    due("lost", x.of(0, 5), GONE);
  }

  // ---- an hour

  @Sentence(of = 0, says = "its number is one more; by its WARMTH")
  static void anHourGoesByTheWarmthOfItsNewNumber() {
    IcicleEaves x = roofed(-9, 0, 0, 60);
    x.warm(0, 9);
    x.warm(1, 4);
    x.hours(1);
    due("snow", x.about(0, 2), 56);
  }

  @Sentence(of = 0, says = "WATER comes (SNOW is so much less)")
  static void snowIsNeverBelow0() {
    IcicleEaves x = roofed(9, 0, 9, 19);
    x.hours(1);
    due("snow behind 18 water", x.about(0, 2), 1);
    due("water", x.about(0, 3), 1);
    x.hours(1);
    due("snow behind 1 water", x.about(0, 2), 0);
    x.hours(1);
    due("snow behind none", x.about(0, 2), 0);
  }

  @Sentence(of = 0, says = "LONG is more by what its KIND says by the WATER of its ROOF")
  static void eachIcicleHasTheWaterOfItsOwnRoof() {
    IcicleEaves x = roofed(-1, 0, 3, 60);
    x.roof(0, 6, 60);
    x.roof(0, 9, 0);
    for (int r = 0; r < 3; r++) x.ice(r, 0, 0, 1, 40);
    x.hours(1);
    int[] want = {3, 6, 1};
    for (int i = 0; i < 3; i++) due("long of icicle " + i, x.of(i, 3), want[i]);
  }

  @Sentence(of = 0, says = "then of each ICICLE not LOST")
  static void oneLostIsNotLostAgain() {
    IcicleEaves x = steady();
    hang(x, 5, 6);
    hang(x, 5, 6);
    x.knocks(0);
    x.hours(1);
    due("knocked off, not fallen too", x.of(0, 5), KNOCKED);
    x.warm(2, 9);
    x.hours(1);
    due("knocked off, not gone too", x.of(0, 5), KNOCKED);
    due("fallen, not gone too", x.of(1, 5), FALLEN);
  }

  @Sentence(of = 0, says = "is it 0 or less, LONG is 0: it is GONE")
  static void oneThatComesTo0IsGone() {
    IcicleEaves x = roofed(3, 0, 0, 0);
    hang(x, 4);
    hang(x, 3);
    hang(x, 2);
    due("not lost", x.hours(1), 1);
    int[] lost = {0, GONE, GONE}, length = {1, 0, 0};
    for (int i = 0; i < 3; i++) {
      due("lost " + i, x.of(i, 5), lost[i]);
      due("long " + i, x.of(i, 3), length[i]);
    }
  }

  @Sentence(of = 0, says = "else, is it more than its ROOT holds, it FALLS: it is FALLEN.")
  static void aRootHoldsSoMuchAndNotMore() {
    IcicleEaves x = steady();
    hang(x, 5, 8);
    hang(x, 5, 7);
    hang(x, 5, 6);
    due("not lost", x.hours(1), 2);
    int[] lost = {0, 0, FALLEN};
    for (int i = 0; i < 3; i++) {
      due("lost " + i, x.of(i, 5), lost[i]);
      due("long " + i, x.of(i, 3), 7);
    }
  }

  @Sentence(of = 0, says = "else, is it more than its ROOT holds, it FALLS: it is FALLEN.")
  static void oneThatCameLongerThanItsRootHoldsFallsInTheNextHour() {
    IcicleEaves x = frozen();
    hang(x, 30, 29);
    due("not yet", x.of(0, 5), 0);
    due("not lost behind an hour", x.hours(1), 0);
    due("lost", x.of(0, 5), FALLEN);
    due("long", x.of(0, 3), 30);
  }

  @Sentence(of = 0, says = "else, is it more than its ROOT holds, it FALLS: it is FALLEN.")
  static void oneThatCameTooLongAndIsShorterByThenHangs() {
    IcicleEaves x = thawing();
    hang(x, 10, 9);
    hang(x, 11, 9);
    x.hours(1);
    due("as long as the root holds", x.of(0, 5), 0);
    due("one more", x.of(1, 5), FALLEN);
  }
}
