/** Edges of the promises 37 to 39: odds, winters, the fraction. */
final class ChanceEdges extends Edge {
  private static final int PLAIN = 0, STEEP = 5, FAT = 1;

  private static void chance(IcicleEaves x, int i, int n, int c, long above, long below) {
    String call = "odds(" + i + ", " + n + ", " + c + ")";
    due(call, x.odds(i, n, c), 1);
    due(call + " above", x.part(0), above);
    due(call + " below", x.part(1), below);
  }

  // ---- 37: odds

  @Sentence(of = 37, says = "ODDS is THE FRACTION: 1. BAD.")
  static void oddsOfNumbersNotAsTold() {
    IcicleEaves x = frozen();
    bad(x, "no icicle", () -> x.odds(0, 0, 0));
    hang(x, 5, 4);
    hang(x, 5, 4);
    chance(x, 0, 1, 0, 1, 1);
    outside(x, "icicle", 0, 1, (y, i) -> y.odds(i, 1, 1));
    outside(x, "hours", 0, 6, (y, n) -> y.odds(0, n, 1));
    outside(x, "of 10", 0, 10, (y, c) -> y.odds(0, 1, c));
    due("the fraction stays", x.part(0), 1);
  }

  /** It falls in the first hour that is warmer: 2 water then, else none. */
  private static IcicleEaves fallsByWarmerHours() {
    IcicleEaves x = roofed(-4, PLAIN, 3, 60);
    hang(x, 5, 6);
    return x;
  }

  @Sentence(of = 0, says = "ODDS: each of n (0 .. 6) HOURS is 3 warmer than told")
  static void oddsOf0HoursAndOf6() {
    IcicleEaves x = fallsByWarmerHours();
    chance(x, 0, 0, 5, 0, 1);
    chance(x, 0, 1, 5, 1, 2);
    chance(x, 0, 5, 5, 31, 32);
    chance(x, 0, 6, 5, 63, 64);
    chance(x, 0, 6, 1, 468559, 1000000);
  }

  @Sentence(of = 0, says = "ODDS: each of n (0 .. 6) HOURS is 3 warmer than told")
  static void noHourBehindTheLastCounts() {
    IcicleEaves x = frozen();
    hang(x, 5, 4);
    chance(x, 0, 0, 0, 0, 1);
    chance(x, 0, 1, 0, 1, 1);
    IcicleEaves y = steady();
    hang(y, 5, 16);
    chance(y, 0, 5, 0, 0, 1);
    chance(y, 0, 6, 0, 1, 1);
  }

  @Sentence(of = 0, says = "(9 at most) by c of 10 (0 .. 10), apart")
  static void oddsBy0Of10AndBy10Of10() {
    IcicleEaves x = fallsByWarmerHours();
    chance(x, 0, 6, 0, 0, 1);
    chance(x, 0, 6, 10, 1, 1);
    chance(x, 0, 1, 1, 1, 10);
    chance(x, 0, 1, 9, 9, 10);
  }

  @Sentence(of = 0, says = "(9 at most) by c of 10 (0 .. 10), apart")
  static void anHourIs9WarmAtMost() {
    for (int w = 6; w <= 9; w++) {
      IcicleEaves x = roofed(w, PLAIN, 0, 0);
      hang(x, 20, 10);
      hang(x, 20, 11);
      // 9 leaves 11, which the first root does not hold; 10 would leave 10, which it does.
      chance(x, 0, 1, 10, 1, 1);
      chance(x, 1, 1, 10, 0, 1);
    }
    IcicleEaves y = roofed(5, PLAIN, 0, 0);
    hang(y, 20, 11);
    hang(y, 20, 12);
    chance(y, 0, 1, 10, 1, 1);
    chance(y, 1, 1, 10, 0, 1);
  }

  @Sentence(of = 0, says = "the chance that an ICICLE FALLS in them: THE FRACTION.")
  static void oneLostFallsByNoChance() {
    IcicleEaves x = frozen();
    hang(x, 5, 4);
    hang(x, 5, 4);
    chance(x, 0, 6, 0, 1, 1);
    x.knocks(0);
    chance(x, 0, 6, 0, 0, 1);
    x.hours(1);
    chance(x, 1, 6, 0, 0, 1);
    IcicleEaves y = roofed(1, PLAIN, 0, 0);
    hang(y, 1, 1);
    chance(y, 0, 6, 5, 0, 1);
    y.hours(1);
    chance(y, 0, 6, 5, 0, 1);
  }

  @Sentence(of = 0, says = "the chance that an ICICLE FALLS in them: THE FRACTION.")
  static void oddsChangeNothingButTheFraction() {
    IcicleEaves x = fallsByWarmerHours();
    chance(x, 0, 1, 10, 1, 1);
    long before = x.digest();
    x.odds(0, 6, 3);
    chance(x, 0, 1, 10, 1, 1);
    due("digest() by the same fraction", x.digest(), before);
    status(x, 0, 0, 0);
  }

  // ---- 38: winters

  @Sentence(of = 38, says = "WINTERS. BAD.")
  static void wintersOfNumbersNotAsTold() {
    IcicleEaves x = frozen();
    hang(x, 5, 4);
    outside(x, "seed", 0, 999999, (y, seed) -> y.winters(seed, 1));
    outside(x, "n", 0, 60, (y, n) -> y.winters(1, n));
  }

  @Sentence(of = 0, says = "WINTERS by a SEED (0 .. 999999), n (0 .. 60)")
  static void wintersOf0HoursAndOf60() {
    IcicleEaves x = frozen();
    hang(x, 5, 4);
    looks(x, "none goes by", () -> x.winters(0, 0), 0);
    looks(x, "one", () -> x.winters(0, 1), 1);
    // At the hour 4 water comes in the 4th hour, the 12th and so on: the 7th time in the 52nd, the 8th in the 60th.
    IcicleEaves y = rare();
    hang(y, 1, 7);
    hang(y, 1, 8);
    y.hours(4);
    looks(y, "behind 51", () -> y.winters(0, 51), 0);
    looks(y, "behind 52", () -> y.winters(0, 52), 1);
    looks(y, "behind 59", () -> y.winters(0, 59), 1);
    looks(y, "behind 60", () -> y.winters(0, 60), 2);
  }

  /** Roofs without snow that give all that falls on them in the same hour; one long 1 hangs on each. */
  private static IcicleEaves bare(int roofs, int root) {
    IcicleEaves x = make();
    for (int r = 0; r < roofs; r++) {
      x.roof(PLAIN, 9, 0);
      x.ice(r, 0, 0, 1, root);
    }
    return x;
  }

  /** So much snow falls in the first of the hours by a seed, on that of three roofs, and no more. */
  private static void falls(int seed, int roof, int amount) {
    for (int root = 1; root <= 7; root++) {
      for (int r = 0; r < 3; r++) {
        IcicleEaves x = bare(3, 40);
        x.ice(r, 0, 0, 1, root);
        int want = r == roof && amount + 1 > root ? 1 : 0;
        looks(x, "winters(" + seed + ", 1), a root on " + r + " that holds " + root, () -> x.winters(seed, 1), want);
      }
    }
  }

  @Sentence(of = 0, says = "X is SEED at first; n times X becomes X times 1103515245 and 12345, by 2147483648 what is left over")
  static void wintersByTheLeastSeedAndTheMost() {
    falls(0, 0, 0);
    falls(999999, 1, 2);
  }

  @Sentence(of = 0, says = "X is SEED at first; n times X becomes X times 1103515245 and 12345, by 2147483648 what is left over")
  static void eachHourGoesOnFromTheXAheadOfIt() {
    // By 999999 snow falls on 1: 2, on 2: 5, on 1: 3; by 0 on 0: 0, on 0: 3.
    int[] want = {0, 1, 2, 2};
    for (int n = 0; n < 4; n++) {
      IcicleEaves x = bare(3, 2);
      int hours = n;
      looks(x, "winters(999999, " + n + ")", () -> x.winters(999999, hours), want[n]);
    }
    IcicleEaves y = bare(3, 3), z = bare(3, 4);
    looks(y, "3 in the second hour", () -> y.winters(0, 2), 1);
    looks(z, "not 4", () -> z.winters(0, 2), 0);
  }

  @Sentence(of = 0, says = "SNOW of ROOF X by 65536 (cut), by 3 left over, if there, is more by X by 1048576 (cut), by 6 left over (60 at most)")
  static void wintersOnEachRoofAndOfEachAmount() {
    falls(1, 2, 2);
    falls(5, 1, 1);
    falls(9, 0, 1);
    falls(11, 0, 4);
    falls(25, 0, 5);
    falls(33, 2, 5);
    // X by 1048576 is near a whole number: 1048575 or 1048577 would be cut otherwise.
    falls(959, 0, 3);
    falls(12064, 0, 3);
  }

  @Sentence(of = 0, says = "SNOW of ROOF X by 65536 (cut), by 3 left over, if there, is more by X by 1048576 (cut), by 6 left over (60 at most)")
  static void snowOnARoofThatIsNotThereIsLost() {
    // By 999999 snow falls on 1: 2, on 2: 5, on 1: 3.
    int[] roofs = {1, 2, 3}, want = {0, 1, 2};
    for (int k = 0; k < 3; k++) {
      IcicleEaves x = bare(roofs[k], 2);
      looks(x, roofs[k] + " roofs", () -> x.winters(999999, 2), want[k]);
    }
    IcicleEaves y = make();
    looks(y, "no roofs", () -> y.winters(999999, 60), 0);
  }

  @Sentence(of = 0, says = "SNOW of ROOF X by 65536 (cut), by 3 left over, if there, is more by X by 1048576 (cut), by 6 left over (60 at most)")
  static void snowIs60AtMostInWintersToo() {
    // By 25 first 5 fall on the roof 0; a fat one is longer by half of all of it.
    int[] snow = {54, 55, 56, 60}, length = {30, 31, 31, 31};
    for (int k = 0; k < 4; k++) {
      for (int root = 29; root <= 31; root++) {
        IcicleEaves x = roofed(-1, STEEP, 0, snow[k]);
        x.ice(0, FAT, 0, 1, root);
        int falls = length[k] > root ? 1 : 0;
        looks(x, "5 on " + snow[k] + ", root " + root, () -> x.winters(25, 1), falls);
      }
    }
  }

  @Sentence(of = 0, says = "then an HOUR: how many FALL in them.")
  static void thoseLostDoNotFallInWinters() {
    IcicleEaves x = frozen();
    for (int i = 0; i < 6; i++) hang(x, 5, 4);
    looks(x, "all six", () -> x.winters(0, 60), 6);
    x.knocks(0);
    looks(x, "five", () -> x.winters(0, 60), 5);
    x.hours(1);
    looks(x, "none", () -> x.winters(0, 60), 0);
    IcicleEaves y = thawing();
    hang(y, 1);
    looks(y, "one that is gone then", () -> y.winters(0, 60), 0);
  }

  // ---- 39: part

  @Sentence(of = 39, says = "THE FRACTION: above (0), below (1). BAD.")
  static void partTakes0To1() {
    IcicleEaves x = make();
    outside(x, "part", 0, 1, IcicleEaves::part);
    looks(x, "part(0)", () -> x.part(0), 0);
    looks(x, "part(1)", () -> x.part(1), 1);
  }

  @Sentence(of = 0, says = "THE FRACTION is 0 by 1 at first; lowest terms, below above 0.")
  static void theFractionIs0By1AtFirst() {
    IcicleEaves x = make();
    due("above", x.part(0), 0);
    due("below", x.part(1), 1);
  }

  @Sentence(of = 0, says = "THE FRACTION is 0 by 1 at first; lowest terms, below above 0.")
  static void theFractionIsInLowestTerms() {
    IcicleEaves x = fallsByWarmerHours();
    chance(x, 0, 1, 2, 1, 5);
    chance(x, 0, 1, 4, 2, 5);
    chance(x, 0, 1, 5, 1, 2);
    chance(x, 0, 1, 8, 4, 5);
    chance(x, 0, 2, 2, 9, 25);
    chance(x, 0, 6, 10, 1, 1);
    chance(x, 0, 6, 0, 0, 1);
  }
}
