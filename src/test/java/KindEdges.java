/** Edges that the kinds of roofs and of icicles name. */
final class KindEdges extends Edge {
  private static final int PLAIN = 0, SLATE = 1, THATCH = 2, TIN = 3, MOSSY = 4, STEEP = 5;
  private static final int FAT = 1, THIN = 2, CLEAR = 3, DIRTY = 4, TWISTED = 5;

  /** As it is told ahead of the hour, as it is gone behind it, and as a MARK would have it. */
  private static void water(int kind, int w, int e, int s, int want) {
    String what = "kind " + kind + " by " + w + ", heat " + e + ", snow " + s;
    IcicleEaves x = roofed(w, kind, e, s);
    due("water, " + what, x.about(0, 3), want);
    x.mark(0, e, w, s, want);
    due("the mark fits, " + what, x.kinds(0) >> kind & 1, 1);
    x.hours(1);
    due("snow behind the hour, " + what, x.about(0, 2), s - want);
  }

  /** The water is what a plain roof of heat e gives; warmths of 0 and more take none of it. */
  private static void more(int kind, int l, int w, int e, int want) {
    String what = "kind " + kind + " long " + l + " by " + w + ", heat " + e;
    IcicleEaves x = roofed(w, 0, e, 60);
    x.ice(0, kind, 0, l, 40);
    due("more, " + what, x.more(0), want);
    x.note(0, l, w, Math.max(0, w + e), want);
    due("the note fits, " + what, x.is(0) >> kind & 1, 1);
    x.hours(1);
    due("long behind the hour, " + what, x.of(0, 3), Math.max(0, l + want));
  }

  // ---- roofs

  @Sentence(of = 0, says = "0 PLAIN: w and e, 0 at least, s at most.")
  static void plainIs0AtLeast() {
    water(PLAIN, -8, 9, 60, 1);
    water(PLAIN, -9, 9, 60, 0);
    water(PLAIN, -9, 8, 60, 0);
    water(PLAIN, -9, 0, 60, 0);
  }

  @Sentence(of = 0, says = "0 PLAIN: w and e, 0 at least, s at most.")
  static void plainIsTheSnowAtMost() {
    water(PLAIN, 9, 9, 60, 18);
    water(PLAIN, 9, 9, 18, 18);
    water(PLAIN, 9, 9, 17, 17);
    water(PLAIN, 9, 9, 0, 0);
  }

  @Sentence(of = 0, says = "1 SLATE (under PLAIN): 2 more than PLAIN, if PLAIN is not 0, s at most.")
  static void slateIs0WherePlainIs0() {
    water(SLATE, -4, 5, 60, 3);
    water(SLATE, -5, 5, 60, 0);
    water(SLATE, -6, 5, 60, 0);
    water(SLATE, 5, 5, 0, 0);
  }

  @Sentence(of = 0, says = "1 SLATE (under PLAIN): 2 more than PLAIN, if PLAIN is not 0, s at most.")
  static void slateIsTheSnowAtMost() {
    water(SLATE, 0, 5, 8, 7);
    water(SLATE, 0, 5, 7, 7);
    water(SLATE, 0, 5, 6, 6);
    water(SLATE, 0, 5, 5, 5);
    water(SLATE, 0, 5, 1, 1);
    water(SLATE, 9, 9, 60, 20);
  }

  @Sentence(of = 0, says = "2 THATCH (under PLAIN): half (cut) of PLAIN.")
  static void thatchIsCut() {
    water(THATCH, 0, 0, 60, 0);
    water(THATCH, 0, 1, 60, 0);
    water(THATCH, 0, 2, 60, 1);
    water(THATCH, 0, 3, 60, 1);
    water(THATCH, 9, 9, 60, 9);
    water(THATCH, -9, 0, 60, 0);
  }

  @Sentence(of = 0, says = "2 THATCH (under PLAIN): half (cut) of PLAIN.")
  static void thatchIsHalfOfWhatTheSnowLeavesOfPlain() {
    water(THATCH, 9, 9, 3, 1);
    water(THATCH, 9, 9, 2, 1);
    water(THATCH, 9, 9, 1, 0);
  }

  @Sentence(of = 0, says = "3 TIN (under SLATE): SLATE, none, if w is below -4.")
  static void tinGivesNoneBelowMinus4() {
    water(TIN, -4, 6, 60, 4);
    water(TIN, -5, 7, 60, 0);
    water(TIN, -9, 9, 60, 0);
  }

  @Sentence(of = 0, says = "3 TIN (under SLATE): SLATE, none, if w is below -4.")
  static void tinIsSlateElse() {
    water(TIN, -4, 4, 60, 0);
    water(TIN, -4, 5, 60, 3);
    water(TIN, -4, 5, 2, 2);
    water(TIN, 9, 9, 60, 20);
  }

  @Sentence(of = 0, says = "4 MOSSY (under THATCH): THATCH, 1 less, if s is an odd number, 0 at least.")
  static void mossyIsLessByOddSnowAlone() {
    water(MOSSY, 0, 6, 60, 3);
    water(MOSSY, 0, 6, 59, 2);
    water(MOSSY, 9, 9, 5, 1);
    water(MOSSY, 9, 9, 4, 2);
  }

  @Sentence(of = 0, says = "4 MOSSY (under THATCH): THATCH, 1 less, if s is an odd number, 0 at least.")
  static void mossyIs0AtLeast() {
    water(MOSSY, 0, 4, 59, 1);
    water(MOSSY, 0, 2, 59, 0);
    water(MOSSY, 0, 1, 59, 0);
    water(MOSSY, -9, 0, 59, 0);
    water(MOSSY, 9, 9, 1, 0);
    water(MOSSY, 9, 9, 0, 0);
  }

  @Sentence(of = 0, says = "5 STEEP (under PLAIN): PLAIN, but all of s, if s is above 40.")
  static void steepGivesAllAbove40() {
    water(STEEP, 0, 5, 40, 5);
    water(STEEP, 0, 5, 41, 41);
    water(STEEP, 9, 9, 60, 60);
    water(STEEP, -9, 0, 40, 0);
    water(STEEP, -9, 0, 41, 41);
    water(STEEP, 9, 9, 10, 10);
  }

  // ---- icicles

  @Sentence(of = 0, says = "0 PLAIN: q, if w is below 0, else 0 less w.")
  static void plainIceGrowsBelow0Alone() {
    more(PLAIN, 10, -1, 5, 4);
    more(PLAIN, 10, -1, 1, 0);
    more(PLAIN, 10, 0, 5, 0);
    more(PLAIN, 10, 1, 5, -1);
    more(PLAIN, 10, 9, 5, -9);
  }

  @Sentence(of = 0, says = "1 FAT (under PLAIN): half of PLAIN (cut towards 0).")
  static void fatIsCutTowards0() {
    more(FAT, 10, -1, 5, 2);
    more(FAT, 10, -1, 4, 1);
    more(FAT, 10, -1, 2, 0);
    more(FAT, 10, 0, 5, 0);
    more(FAT, 10, 1, 5, 0);
    more(FAT, 10, 2, 5, -1);
    more(FAT, 10, 3, 5, -1);
    more(FAT, 10, 9, 5, -4);
  }

  @Sentence(of = 0, says = "2 THIN (under PLAIN): PLAIN, 1 more, if it is above 0.")
  static void thinIsMoreAbove0Alone() {
    more(THIN, 10, -1, 2, 2);
    more(THIN, 10, -1, 1, 0);
    more(THIN, 10, 0, 5, 0);
    more(THIN, 10, 1, 5, -1);
  }

  @Sentence(of = 0, says = "3 CLEAR (under FAT): FAT, but 0, if it is above 0 and l above 20.")
  static void clearHasEnoughAbove20() {
    more(CLEAR, 20, -1, 5, 2);
    more(CLEAR, 21, -1, 5, 0);
    more(CLEAR, 30, -1, 9, 0);
  }

  @Sentence(of = 0, says = "3 CLEAR (under FAT): FAT, but 0, if it is above 0 and l above 20.")
  static void clearGetsShorterAbove20Too() {
    more(CLEAR, 21, 4, 5, -2);
    more(CLEAR, 21, 2, 5, -1);
    more(CLEAR, 21, 1, 5, 0);
    more(CLEAR, 20, 9, 5, -4);
  }

  @Sentence(of = 0, says = "4 DIRTY (under PLAIN): PLAIN, 2 less, if w is above 0.")
  static void theSunEatsTheDirtyAbove0() {
    more(DIRTY, 20, -1, 5, 4);
    more(DIRTY, 20, 0, 5, 0);
    more(DIRTY, 20, 1, 5, -3);
    more(DIRTY, 20, 9, 5, -11);
  }

  @Sentence(of = 0, says = "5 TWISTED (under THIN): THIN, twice, if 5 divides l.")
  static void twistedIsTwiceWhere5Divides() {
    more(TWISTED, 4, -1, 5, 5);
    more(TWISTED, 5, -1, 5, 10);
    more(TWISTED, 6, -1, 5, 5);
    more(TWISTED, 30, -1, 5, 10);
    more(TWISTED, 1, -1, 2, 2);
  }

  @Sentence(of = 0, says = "5 TWISTED (under THIN): THIN, twice, if 5 divides l.")
  static void twistedIsTwiceBelow0Too() {
    more(TWISTED, 10, 3, 5, -6);
    more(TWISTED, 11, 3, 5, -3);
    more(TWISTED, 10, -1, 1, 0);
    more(TWISTED, 10, 0, 5, 0);
  }

  @Sentence(of = 0, says = "5 TWISTED (under THIN): THIN, twice, if 5 divides l.")
  static void fiveDividesThe0OfOneGone() {
    IcicleEaves x = roofed(9, 0, 0, 60);
    x.ice(0, TWISTED, 0, 1, 40);
    x.hours(1);
    due("gone", x.of(0, 5), GONE);
    due("more", x.more(0), -18);
  }
}
