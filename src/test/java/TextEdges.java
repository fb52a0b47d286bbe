import java.util.Set;

/** Edges of the text by which a house is told. */
final class TextEdges extends Edge {
  private static final String HOUSE = "house 9;", ROOF = "roof 0 0 0;", ICE = "ice 0 0 0 1 1;";
  private static final Set<String> WORDS = Set.of("house", "warm", "roof", "ice", "hours");

  /** All stays, status too; the house there was is not as at first. */
  private static void fault(String s, int place) {
    IcicleEaves x = crowded();
    typeAll(x, s);
    looks(x, "read '" + s + "'", x::read, -10 - place);
  }

  private static IcicleEaves items(String s, int want) {
    IcicleEaves x = make();
    typeAll(x, s);
    due("read '" + s + "'", x.read(), want);
    return x;
  }

  // ---- the text, items, and what they take

  @Sentence(of = 0, says = "THE HOUSE is told by a TEXT (150 bytes at most)")
  static void aTextOf150BytesIsReadToItsLastByte() {
    items(HOUSE + times(142, " "), 1);
    items(times(142, " ") + "house 9;", 1);
    fault(HOUSE + times(141, " ") + "x", 149);
    fault("house 9" + times(143, " "), 150);
  }

  @Sentence(of = 0, says = "of ITEMS, each ended by ; :")
  static void anItemIsEndedBySemicolon() {
    items("house 9;roof 0 0 0;", 2);
    fault("house 9 roof 0 0 0;", 8);
    fault("house 9;roof 0 0 0 ice 0 0 0 1 1;", 19);
    fault("house 9:", 7);
    fault("house 9<", 7);
  }

  @Sentence(of = 0, says = "of ITEMS, each ended by ; :")
  static void anItemIsNotEmpty() {
    fault(";", 0);
    fault("house 9;;", 8);
    fault("house 9; ;", 9);
  }

  @Sentence(of = 0, says = "house W (WARMTH of all HOURS is W less 9, W 0 .. 18")
  static void houseTakes0To18() {
    IcicleEaves least = items("house 0;", 1), most = items("house 18;", 1);
    for (int h = 0; h < 8; h++) {
      due("warmth(" + h + ") by 0", least.warmth(h), 0);
      due("warmth(" + h + ") by 18", most.warmth(h), 18);
    }
    fault("house 19;", 6);
    fault("house 99;", 6);
  }

  @Sentence(of = 0, says = "once, first of all)")
  static void houseStandsOnceAndFirst() {
    fault("house 9;house 9;", 8);
    fault(HOUSE + ROOF + "house 9;", 19);
    fault("roof 0 0 0;house 9;", 0);
  }

  @Sentence(of = 0, says = "warm h W (of the h-th of the 8, 0 .. 7)")
  static void warmTakesTheHours0To7() {
    IcicleEaves x = items("house 9;warm 0 1;warm 7 2;", 3);
    int[] want = {1, 9, 9, 9, 9, 9, 9, 2};
    for (int h = 0; h < 8; h++) due("warmth(" + h + ")", x.warmth(h), want[h]);
    fault("house 9;warm 8 9;", 13);
    fault("house 9;warm 99 9;", 13);
  }

  @Sentence(of = 0, says = "warm h W (of the h-th of the 8, 0 .. 7)")
  static void warmTakesTheWOfHouse() {
    IcicleEaves x = items("house 9;warm 3 0;warm 4 18;", 3);
    due("warmth(3)", x.warmth(3), 0);
    due("warmth(4)", x.warmth(4), 18);
    fault("house 9;warm 3 19;", 15);
  }

  @Sentence(of = 0, says = "roof KIND HEAT SNOW;")
  static void roofTakesWhatARoofTakes() {
    IcicleEaves x = items("house 9;roof 0 0 0;roof 5 9 60;", 3);
    int[] want = {0, 0, 0, 5, 9, 60};
    for (int k = 0; k < 6; k++) due("about(" + k / 3 + ", " + k % 3 + ")", x.about(k / 3, k % 3), want[k]);
    fault("house 9;roof 6 9 60;", 13);
    fault("house 9;roof 5 10 60;", 15);
    fault("house 9;roof 5 9 61;", 17);
  }

  @Sentence(of = 0, says = "ice ROOF KIND PLACE LONG ROOT;")
  static void iceTakesWhatAnIcicleTakes() {
    IcicleEaves x = items(HOUSE + ROOF + "ice 0 0 0 1 1;ice 0 5 7 30 40;", 4);
    int[] want = {0, 0, 0, 1, 1, 0, 0, 5, 7, 30, 40, 0};
    for (int k = 0; k < 12; k++) due("of(" + k / 6 + ", " + k % 6 + ")", x.of(k / 6, k % 6), want[k]);
    fault(HOUSE + ROOF + "ice 0 6 7 30 40;", 25);
    fault(HOUSE + ROOF + "ice 0 5 8 30 40;", 27);
    fault(HOUSE + ROOF + "ice 0 5 7 31 40;", 29);
    fault(HOUSE + ROOF + "ice 0 5 7 0 40;", 29);
    fault(HOUSE + ROOF + "ice 0 5 7 30 41;", 32);
    fault(HOUSE + ROOF + "ice 0 5 7 30 0;", 32);
  }

  @Sentence(of = 0, says = "hours n (1 .. 99).")
  static void hoursTakes1To99() {
    due("count(2) by 1", items("house 9;hours 1;", 2).count(2), 1);
    due("count(2) by 99", items("house 9;hours 99;", 2).count(2), 99);
    fault("house 9;hours 0;", 14);
    fault("house 9;hours 00;", 14);
    fault("house 9;hours 100;", 14);
  }

  @Sentence(of = 0, says = "hours n (1 .. 99).")
  static void hoursGoByWhereTheyStand() {
    IcicleEaves x = items("house 8;roof 0 3 60;hours 1;ice 0 0 0 5 7;ice 0 0 0 5 6;hours 1;warm 2 18;", 7);
    due("count(2)", x.count(2), 2);
    due("snow", x.about(0, 2), 56);
    due("long", x.of(0, 3), 7);
    due("not lost", x.of(0, 5), 0);
    due("fallen", x.of(1, 5), FALLEN);
  }

  // ---- tokens

  @Sentence(of = 0, says = "words of letters a .. z")
  static void lettersAreAToZ() {
    fault("housea 9;", 0);
    fault("housez 9;", 0);
    fault("house` 9;", 5);
    fault("house{ 9;", 5);
    fault("houseA 9;", 5);
    fault("houseZ 9;", 5);
    fault("House 9;", 0);
  }

  @Sentence(of = 0, says = "figures (1 or 2 are one number)")
  static void figuresAre0To9() {
    due("warmth by 0", items("house 0;", 1).warmth(0), 0);
    due("warmth by 9", items("house 9;", 1).warmth(0), 9);
    fault("house /;", 6);
    fault("house :;", 6);
    fault("house 1/;", 7);
    fault("house 1:;", 7);
  }

  @Sentence(of = 0, says = "figures (1 or 2 are one number)")
  static void oneOrTwoFiguresAreOneNumber() {
    due("warmth by 18", items("house 18;", 1).warmth(0), 18);
    due("warmth by 08", items("house 08;", 1).warmth(0), 8);
    due("warmth by 00", items("house 00;", 1).warmth(0), 0);
    fault("house 1 8;", 8);
  }

  @Sentence(of = 0, says = "blanks (32) between.")
  static void thereMayBeAnyBlanksOrNone() {
    items("house9;roof0 0 0;ice0 0 0 1 1;", 3);
    items("   house   9   ;   roof   0   0   0   ;   ", 2);
    fault("   ", 3);
    fault("   x", 3);
  }

  @Sentence(of = 0, says = "blanks (32) between.")
  static void thirtyTwoAloneIsABlank() {
    for (char c : new char[] {0, 9, 10, 13, 31, 33, 127}) {
      fault("house" + c + "9;", 5);
      fault("house 9;" + c, 8);
    }
  }

  // ---- faults

  @Sentence(of = 0, says = "FAULT: the place of the first byte of the first TOKEN that can not stand there")
  static void theFirstOfManyFaultsIsTold() {
    fault("house 19;roof 6 10 61;", 6);
    fault("house 9;roof 6 10 61;", 13);
    fault("house 9;roof 5 10 61;", 15);
    fault("house 9;roof 5 9 61", 17);
    fault(" houze 99;", 1);
  }

  @Sentence(of = 0, says = "FAULT: the place of the first byte of the first TOKEN that can not stand there")
  static void aTokenOfAnotherSortCanNotStand() {
    fault("house house;", 6);
    fault("house ;", 6);
    fault("house 9 9;", 8);
    fault("house 9;9;", 8);
    fault("house 9;roof roof;", 13);
    fault("house 9;roof 0 ;", 15);
    fault("house 9;roof 0 0 0 0;", 19);
    fault("house 9;warm 0;", 14);
    fault("house 9;hours;", 13);
    fault("house 9;hours 1 1;", 16);
  }

  @Sentence(of = 0, says = "a word that is none")
  static void aWordThatIsNone() {
    fault("houses 9;", 0);
    fault("hous 9;", 0);
    fault("xouse 9;", 0);
    fault("houze 9;", 0);
    for (String word : new String[] {"a", "warn", "warms", "war", "roofs", "roo", "poof", "ices", "ic", "hour", "hourss"}) {
      fault(HOUSE + word + " 1 1 1;", 8);
    }
  }

  @Sentence(of = 0, says = "house again")
  static void houseAgain() {
    fault("house 9;house 9;", 8);
    fault("house 9;hours 1; house", 17);
  }

  @Sentence(of = 0, says = "anything ahead of it")
  static void anythingAheadOfHouse() {
    for (String ahead : new String[] {"warm 0 0;", "roof 0 0 0;", "ice 0 0 0 1 1;", "hours 1;", "9", ";", "x", "-"}) {
      fault(ahead + HOUSE, 0);
    }
  }

  @Sentence(of = 0, says = "a 4th roof")
  static void aFourthRoofAtItsWord() {
    items(HOUSE + times(3, ROOF), 4);
    fault(HOUSE + times(4, ROOF), 41);
    fault(HOUSE + times(3, ROOF) + "roof", 41);
    fault(HOUSE + times(3, ROOF) + "roof 9", 41);
  }

  @Sentence(of = 0, says = "a 7th ice at its word")
  static void aSeventhIceAtItsWord() {
    items(HOUSE + ROOF + times(6, ICE), 8);
    fault(HOUSE + ROOF + times(7, ICE), 103);
    fault(HOUSE + ROOF + times(6, ICE) + "ice", 103);
    fault(HOUSE + ROOF + times(6, ICE) + "ice 9", 103);
  }

  @Sentence(of = 0, says = "a run of three figures or more (at its first one)")
  static void aRunOfThreeFiguresOrMore() {
    fault("house 009;", 6);
    fault("house 0009;", 6);
    fault("house 4294967305;", 6);
    fault("house " + times(140, "0") + "9;", 6);
    fault("house 9 123;", 8);
    fault("house 9;roof 005 9 60;", 13);
    fault("house 9;123", 8);
  }

  @Sentence(of = 0, says = "a number not as told")
  static void aNumberNotAsTold() {
    fault("house 19;", 6);
    fault("house 9;warm 8 0;", 13);
    fault("house 9;warm 0 19;", 15);
    fault("house 9;hours 0;", 14);
    fault("house 9;roof 6 0 0;", 13);
    fault(HOUSE + ROOF + "ice 0 0 0 0 1;", 29);
  }

  @Sentence(of = 0, says = "also a ROOF that is not there yet")
  static void aRoofThatIsNotThereYet() {
    fault(HOUSE + ICE, 12);
    fault(HOUSE + ICE + ROOF, 12);
    fault(HOUSE + ROOF + "ice 1 0 0 1 1;", 23);
    items(HOUSE + ROOF + ROOF + "ice 1 0 0 1 1;", 4);
    fault(HOUSE + ROOF + ROOF + "ice 2 0 0 1 1;", 34);
    items(HOUSE + times(3, ROOF) + "ice 2 0 0 1 1;", 5);
    fault(HOUSE + times(3, ROOF) + "ice 3 0 0 1 1;", 45);
  }

  @Sentence(of = 0, says = "a byte that begins none, too")
  static void aByteThatBeginsNone() {
    for (char c : new char[] {0, '\t', '\n', '!', '+', ',', '-', '.', '/', ':', '<', '@', 'A', 'Z', '[', '`', '{', 127}) {
      fault(c + HOUSE, 0);
      fault("house " + c + "9;", 6);
      fault("house 9" + c + ";", 7);
      fault(HOUSE + c, 8);
    }
  }

  @Sentence(of = 0, says = "the TEXT's length, if it ends too early")
  static void everyTextThatEndsTooEarly() {
    String all = "house 9;roof 5 9 60;ice 0 5 7 30 40;warm 7 18;hours 99;";
    int ended = 0;
    for (int length = 0; length < all.length(); length++) {
      String s = all.substring(0, length);
      int word = length;
      while (word > 0 && Character.isLetter(s.charAt(word - 1))) word--;
      boolean halfAWord = word < length && !WORDS.contains(s.substring(word));
      if (s.endsWith(";")) items(s, ++ended);
      else fault(s, halfAWord ? word : length);
    }
    items(all, 5);
  }

  @Sentence(of = 0, says = "the TEXT's length, if it ends too early")
  static void blanksAtTheEndCountInTheLength() {
    fault("house  ", 7);
    fault("house 9  ", 9);
    fault("house 9;roof 0 0 0  ", 20);
  }

  @Sentence(of = 0, says = "(an empty one, too)")
  static void anEmptyText() {
    fault("", 0);
    IcicleEaves x = make();
    due("read() of a new object", x.read(), -10);
  }

  // ---- what is read takes the place of all else

  @Sentence(of = 0, says = "A HOUSE that is read takes the place of all but IMAGES, THE TEXT, THE FRACTION, STATUS")
  static void nothingIsLeftOfTheHouseThatWas() {
    IcicleEaves x = crowded(), y = make();
    typeAll(x, HOUSE);
    typeAll(y, HOUSE);
    x.read();
    y.house(0);
    due("digest() as by house(0)", x.digest(), y.digest());
    due("a roof comes first again", x.roof(1, 2, 3), 0);
  }

  @Sentence(of = 0, says = "A HOUSE that is read takes the place of all but IMAGES, THE TEXT, THE FRACTION, STATUS")
  static void imagesStayBehindRead() {
    IcicleEaves x = crowded();
    typeAll(x, HOUSE);
    x.image(0);
    long before = x.digest();
    x.read();
    no(x, "from(1), not kept", () -> x.from(1));
    due("from(0)", x.from(0), 1);
    due("digest()", x.digest(), before);
  }

  @Sentence(of = 0, says = "A HOUSE that is read takes the place of all but IMAGES, THE TEXT, THE FRACTION, STATUS")
  static void theTextStaysBehindRead() {
    IcicleEaves x = items(HOUSE, 1);
    due("count(11)", x.count(11), 8);
    due("read() again", x.read(), 1);
  }

  @Sentence(of = 0, says = "A HOUSE that is read takes the place of all but IMAGES, THE TEXT, THE FRACTION, STATUS")
  static void theFractionStaysBehindRead() {
    IcicleEaves x = frozen();
    hang(x, 5, 4);
    x.odds(0, 1, 0);
    typeAll(x, HOUSE);
    x.read();
    due("above", x.part(0), 1);
    due("below", x.part(1), 1);
  }

  @Sentence(of = 0, says = "A HOUSE that is read takes the place of all but IMAGES, THE TEXT, THE FRACTION, STATUS")
  static void statusStaysBehindRead() {
    IcicleEaves x = make();
    x.house(10);
    x.undo();
    for (int r = 0; r < 4; r++) x.roof(0, 0, 0);
    typeAll(x, HOUSE);
    x.read();
    status(x, 1, 1, 1);
  }

  @Sentence(of = 0, says = "(SEEN ones, NOTES, MARKS none; nothing to undo).")
  static void seenOnesNotesAndMarksAreNone() {
    IcicleEaves x = crowded();
    typeAll(x, HOUSE + times(3, ROOF) + ICE);
    x.read();
    for (int what = 7; what <= 9; what++) due("count(" + what + ")", x.count(what), 0);
    due("warms(0)", x.warms(0), 1023);
    due("kinds(2)", x.kinds(2), 63);
    due("is(0)", x.is(0), 63);
  }

  @Sentence(of = 0, says = "(SEEN ones, NOTES, MARKS none; nothing to undo).")
  static void nothingIsToBeUndoneBehindRead() {
    IcicleEaves x = crowded();
    typeAll(x, HOUSE + "hours 3;");
    x.read();
    due("count(10)", x.count(10), 0);
    no(x, "undo()", x::undo);
  }
}
