/**
 * Promises 7 to 18, and what the Terms say of TO CHANGE: each bound, with the number just within and the number just beyond.
 * A row's head is the promise, or T2 for the Terms.
 */
public final class ChangeBoundsTest extends Checks {
  private static final int[] NO_HAND = {-1, 4, 5, -4, 32, 256, 65536, LEAST, LEAST + 1, MOST};

  public static void main(String[] args) {
    hands(); placesToPut(); putAtBothEnds(); putInMoved(); spans(); spansOfAView(); emptyView();
    looks(); behindC(); oneLetterMoved(); wholeMoved(); tokensAlong(); tokensByView();
    roundDirectly(); roundByAThird(); roundInOneView(); roundThroughSettled(); roundByTokensAlong();
    rowOf240(); rowOf240Moved(); hiddenLettersFill(); changes24(); numbersAsTheyCome();
    numbersOfChanges(); whatsOfChange(); settleBounds(); anyOrder();
    cutBounds(); cutInOrderOfTheRow(); cutAlike(); cutSettled(); cutLettersNotThere();
    spanBounds(); lookBounds();
    clashStates(); clashHands(); clashLetters(); clashKinds(); clashLooks(); clashPairs();
    end("ChangeBoundsTest");
  }

  private static String row(int... answers) {
    StringBuilder out = new StringBuilder();
    for (int a : answers) out.append(out.length() == 0 ? "" : " ").append(a);
    return out.toString();
  }

  // ---- hands, places, SPANS

  private static void hands() {
    Desk x = typed(desk("abcd"), "x");
    for (int h : NO_HAND) {
      due("7 hand " + h, x.put(h, 0), BAD);
      due("8 hand " + h, x.strike(h, 0, 1), BAD);
      due("9 hand " + h, x.shape(h, 0, 1, 1), BAD);
      due("10 hand " + h, x.remark(h, 0, 1), BAD);
      due("11 hand " + h, x.move(h, 0, 1, 2), BAD);
      due("19 hand " + h, x.compare(h), BAD);
    }
    due("7 none made", counts(x), "4 0 0 0 0 0 1");
    for (int h = 0; h <= 3; h++) {
      Desk y = desk("abcd");
      due("7 hand " + h, put(y, h, 0, "x"), 1);
      due("8 hand " + h, y.strike(h, 0, 1), 2);
      due("9 hand " + h, y.shape(h, 0, 1, 1), 3);
      due("10 hand " + h, y.remark(h, 0, 1), 4);
      due("11 hand " + h, y.move(h, 0, 1, 2), 5);
      due("19 hand " + h, typed(y, "abcde").compare(h), 1);
      for (int n = 1; n <= 6; n++) due("14 hand of " + n, y.change(n, 1), h);
    }
  }

  private static void placesToPut() {
    for (int a = -3; a <= 6; a++) {
      Desk x = desk("abcd");
      due("7 place " + a, put(x, 0, a, "X"), a >= 0 && a <= 4 ? 1 : BAD);
      if (a >= 0 && a <= 4) due("7 behind " + a, text(x, 3), "abcd".substring(0, a) + "X" + "abcd".substring(a));
    }
    Desk y = typed(desk("abcd"), "X");
    for (int a : new int[] {LEAST, LEAST + 1, 32, 256, 65536, MOST - 1, MOST}) due("7 place " + a, y.put(0, a), BAD);
    Desk z = fullRow();
    z.settle(1, false);
    due("7 place 240, 121 there", typed(z, "X").put(0, 240) + z.put(0, 121), 2 * BAD);
    due("7 THE TAPE stays", z.count(6), 1);
    Desk w = desk("abcd");
    put(w, 0, 4, "wxyz");
    due("7 the hand's last place", put(w, 0, 8, "!") + " " + put(w, 1, 5, "?") + " " + w.put(1, 4), "2 -1 3");
    due("7 behind d, for 1", text(w, 2), "abcd?wxyz!");
  }

  private static void putAtBothEnds() {
    Desk x = desk("ab");
    x.strike(0, 0, 2);
    due("7 an empty view", put(x, 0, 0, "X") + text(x, 3), "2X");
    due("7 at the beginning of THE ROW", settledText(x, 2), "Xab");
    Desk y = desk("ab");
    y.strike(0, 1, 2);
    due("7 behind a, ahead of b", put(y, 0, 1, "X") + settledText(y, 2), "2aXb");
    Desk z = desk("ab");
    z.move(1, 1, 2, 0);
    due("7 ahead of a TOKEN at the beginning", put(z, 0, 0, "X") + text(z, 2), "2Xba");
    due("7 for 1, too", put(z, 1, 0, "Y") + text(z, 2), "3YXba");
  }

  /** BEHIND is in all MOVED ones in which the LETTER is, in no other KIND, and with a 0 in none. */
  private static void putInMoved() {
    Desk x = desk("abcd");
    x.strike(2, 0, 2);
    x.shape(1, 0, 2, 3);
    x.remark(1, 0, 2);
    x.move(0, 0, 2, 4);
    x.move(1, 0, 2, 4);
    due("7 behind b", put(x, 3, 2, "X") + told(x, 6, 5), "6" + "22200");
    due("7 behind b, nothing else", told(x, 6, 4) + told(x, 6, 6) + told(x, 6, 7), "11000" + "11000" + "11000");
    due("7 behind c", put(x, 3, 4, "Y") + text(x, 6) + told(x, 6, 5), "7" + "abXcYd" + "222000");
    due("7 at 0", put(x, 3, 0, "Z") + text(x, 6) + told(x, 6, 5), "8" + "ZabXcYd" + "0222000");
  }

  /** Every a and b about "abcd". */
  private static void spans() {
    for (int kind = STRUCK; kind <= REMARK; kind++) {
      String p = kind == STRUCK ? "8 " : kind == MOVED ? "11 " : kind == SHAPED ? "9 " : "10 ";
      for (int a = -2; a <= 6; a++) {
        for (int b = -2; b <= 6; b++) {
          Desk x = desk("abcd");
          boolean is = a >= 0 && a < b && b <= 4;
          due(p + a + " to " + b, kind == MOVED ? x.move(1, a, b, 0) : mark(x, kind, 1, a, b), is ? 1 : BAD);
          due(p + a + " to " + b + ", made", x.count(2), is ? 1 : 0);
          if (is) due(p + a + " to " + b + ", letters", inIt(x, kind), in(a, b));
        }
      }
      Desk y = desk("abcd");
      for (int far : new int[] {LEAST, LEAST + 1, -65536, 256, 65536, MOST - 1, MOST}) {
        due(p + "from " + far, kind == MOVED ? y.move(1, far, 2, 4) : mark(y, kind, 1, far, 2), BAD);
        due(p + "to " + far, kind == MOVED ? y.move(1, 1, far, 0) : mark(y, kind, 1, 1, far), BAD);
        due(p + "both " + far, kind == MOVED ? y.move(1, far, far, 0) : mark(y, kind, 1, far, far), BAD);
      }
      due(p + "none made", y.count(2), 0);
    }
  }

  private static String inIt(Desk x, int kind) { return told(x, 0, kind == STRUCK ? 4 : kind + 3); }

  private static String in(int a, int b) { return "0".repeat(a) + "1".repeat(b - a) + "0".repeat(4 - b); }

  /** The places are those of the hand's own VIEW. */
  private static void spansOfAView() {
    Desk x = desk("abcd");
    put(x, 1, 2, "XY");
    x.strike(2, 0, 3);
    due("8 to the last place, for 1", x.strike(1, 5, 6) + " " + x.strike(1, 4, 6) + " " + x.strike(1, 4, 5), "3 -1 4");
    due("8 to the last place, for 2", x.strike(2, 0, 2) + " " + x.strike(2, 0, 1) + " " + x.strike(2, 0, 1), "-1 5 -1");
    due("8 letters", told(x, 0, 4), "1122");
    due("8 not of the PUT", told(x, 4, 4), "1100");
    Desk y = fullRow();
    due("8 240 places", y.strike(0, 239, 241) + " " + y.strike(0, 0, 240) + " " + y.change(2, 4) + " " + y.strike(0, 0, 1), "-1 2 240 -1");
    due("8 120 places, for 1", y.strike(1, 119, 121) + " " + y.strike(1, 119, 120), "-1 3");
  }

  private static void emptyView() {
    Desk x = desk("ab");
    x.strike(1, 0, 2);
    due("8 none SHOWN", x.strike(1, 0, 1) + x.strike(1, 0, 0), 2 * BAD);
    due("9 none SHOWN", x.shape(1, 0, 1, 1), BAD);
    due("10 none SHOWN", x.remark(1, 0, 1), BAD);
    due("11 none SHOWN", x.move(1, 0, 1, 1) + x.move(1, 0, 0, 0), 2 * BAD);
    due("7 none SHOWN", put(x, 1, 1, "X") + " " + x.put(1, 0), "-1 2");
    due("8 one SHOWN", x.strike(1, 0, 1), 3);
  }

  private static void looks() {
    for (int look : new int[] {0, 8, -1, 9, -7, 32, 33, 256 + 1, 65536 + 7, LEAST, LEAST + 1, MOST}) {
      Desk x = desk("ab");
      due("9 LOOK " + look, x.shape(0, 0, 1, look) + " " + x.count(2), BAD + " 0");
      x.shape(0, 0, 1, 4);
      due("16 LOOK " + look, x.look(1, look) + " " + x.change(1, 3), BAD + " 4");
    }
    for (int look = 1; look <= 7; look++) {
      Desk x = desk("ab");
      due("9 LOOK " + look, x.shape(0, 0, 1, look) + " " + change(x, 1) + " " + told(x, 3, 1), "1 3 0 0 " + look + " 1 " + look + "0");
      due("16 LOOK to " + look, x.look(1, 8 - look) + " " + x.look(1, look) + " " + x.change(1, 3), look + " " + (8 - look) + " " + look);
    }
  }

  // ---- 11: move

  /** bc of "abcd", BEHIND each c. */
  private static void behindC() {
    String[] texts = {"bcad", "abcd", null, "abcd", "adbc"};
    for (int c = -2; c <= 6; c++) {
      Desk x = desk("abcd");
      boolean is = c >= 0 && c <= 4 && c != 2;
      due("11 bc behind " + c, x.move(2, 1, 3, c), is ? 1 : BAD);
      due("11 bc behind " + c + ", row", counts(x), is ? "4 1 1 1 0 0 0" : "4 0 0 0 0 0 0");
      if (is) due("11 bc behind " + c + ", text", text(x, 5) + told(x, 5, 3), texts[c] + texts[c].replaceAll("[bc]", "1").replaceAll("[ad]", "0"));
    }
    Desk y = desk("abcd");
    for (int c : new int[] {LEAST, LEAST + 1, 32, 256, 65536, MOST - 1, MOST}) due("11 behind " + c, y.move(2, 1, 3, c), BAD);
    due("11 none made", y.count(1) + y.count(2), 0);
  }

  private static void oneLetterMoved() {
    String[] texts = {"bacd", "abcd", "abcd", "acbd", "acdb"};
    for (int c = 0; c <= 4; c++) {
      Desk x = desk("abcd");
      due("11 b behind " + c, x.move(2, 1, 2, c) + text(x, 5), 1 + texts[c]);
    }
  }

  private static void wholeMoved() {
    for (int c = 0; c <= 4; c++) {
      Desk x = desk("abcd");
      due("11 all behind " + c, x.move(2, 0, 4, c), c % 4 == 0 ? 1 : BAD);
      due("11 all behind " + c + ", text", text(x, 5) + text(x, 2), "abcdabcd");
    }
    Desk y = desk("a");
    due("11 a single one", y.move(2, 0, 1, 0) + " " + y.move(2, 0, 1, 1) + " " + y.move(2, 0, 1, 2) + " " + text(y, 5), "1 2 -1 a");
  }

  /** TOKENS between the first and the last LETTER, and just outside of them. */
  private static void tokensAlong() {
    Desk x = desk("abcdef");
    x.move(1, 5, 6, 1);
    x.move(1, 4, 5, 2);
    due("11 behind a, behind f", text(x, 4) + " " + told(x, 4, 3), "afdbce 012000");
    Desk y = desk("abcdef");
    y.move(1, 5, 6, 1);
    due("11 ahead of b, it stays", y.move(0, 1, 3, 4) + text(y, 2), "2" + "afdbce");
    Desk z = desk("abcdef");
    z.move(1, 5, 6, 3);
    due("11 behind c, it stays", z.move(0, 1, 3, 4) + text(z, 2), "2" + "afdbce");
    Desk w = desk("abcdef");
    w.move(1, 5, 6, 2);
    due("11 between b and c, it goes along", w.move(0, 1, 3, 4) + text(w, 2), "2" + "adbfce");
    Desk v = desk("abcdef");
    v.move(1, 5, 6, 2);
    due("11 b alone", v.move(0, 1, 2, 4) + text(v, 2), "2" + "afcdbe");
    Desk u = desk("abcdef");
    u.move(1, 5, 6, 2);
    u.settle(1, false);
    due("11 a REFUSED one's TOKEN goes along, too", u.move(0, 1, 3, 4) + " " + u.move(2, 3, 5, 6), "2 -2");
  }

  /** TOKENS that STAND, in that VIEW, elsewhere than the LETTERS do stay. */
  private static void tokensByView() {
    Desk x = desk("abcdef");
    x.move(1, 0, 1, 3);
    x.move(0, 2, 4, 0);
    due("11 c T d, for 0", text(x, 3) + " " + text(x, 2), "cdabef" + " " + "cadbef");
    due("11 its TOKEN is in the second", x.move(2, 2, 4, 1), NOT);
    Desk y = desk("abcdef");
    y.move(0, 1, 4, 6);
    y.move(2, 5, 6, 2);
    due("11 T2 between b and c", text(y, 3) + " " + text(y, 5), "aefbcd abfcde");
    due("11 a to e, T2 STANDS in the first", y.move(0, 0, 2, 3) + " " + text(y, 3) + " " + text(y, 2), "3 faebcd bfaecd");
    due("11 T2 is not in it", settledText(y, 3), "bcdfae");
    Desk z = desk("abcdef");
    z.move(0, 0, 1, 1);
    z.move(1, 5, 6, 1);
    due("11 a STANDS in the first, T2, too; b does not", text(z, 2) + z.move(0, 0, 2, 5) + text(z, 2), "afbcde" + "3" + "cdeafb");
    due("11 T2 is in it", text(settled(z, false, 1), 2), "cdeafb");
  }

  // ---- 11: MOVED ones that would go round

  private static Desk abBehindC() {
    Desk x = desk("abcd");
    x.move(0, 0, 2, 3);
    return x;
  }

  /** a b c T1 d, ab in 1. */
  private static void roundDirectly() {
    leaves("11 cd behind a, that is in 1", NOT, ChangeBoundsTest::abBehindC, x -> x.move(1, 2, 4, 1));
    leaves("11 cd behind b, that is in 1", NOT, ChangeBoundsTest::abBehindC, x -> x.move(1, 2, 4, 2));
    due("11 cd at 0", abBehindC().move(1, 2, 4, 0), 2);
    due("11 cd behind d", abBehindC().move(1, 2, 4, 4), 2);
    due("11 c alone behind a, T1 is not along", abBehindC().move(1, 2, 3, 1), 2);
    due("11 d alone behind a, T1 is not along", abBehindC().move(1, 3, 4, 1), 2);
    Desk x = abBehindC();
    due("11 the hand itself, cabd: all STAND in the latest", x.move(0, 0, 4, 4) + " " + x.move(0, 0, 4, 0) + " " + text(x, 3), "2 3 abcd");
    Desk y = abBehindC();
    due("11 the hand itself, behind a within 1", y.move(0, 0, 1, 2) + text(y, 3), "2acbd");
    Desk z = abBehindC();
    due("11 bcd behind a", z.move(1, 1, 4, 1), NOT);
    due("11 bcd at 0", z.move(1, 1, 4, 0), 2);
  }

  /** a b c T1 d e T2 f: a in 1; c, T1, d in 2. */
  private static Desk twoWithin() {
    Desk x = desk("abcdef");
    x.move(0, 0, 1, 3);
    x.move(1, 2, 4, 5);
    return x;
  }

  private static void roundByAThird() {
    due("11 two within", text(twoWithin(), 2) + told(twoWithin(), 2, 3), "becadf" + "002120");
    leaves("11 ef behind a: 3 in 1, 1 in 2, 2 in 3", NOT, ChangeBoundsTest::twoWithin, x -> x.move(2, 4, 6, 1));
    leaves("11 ef behind c: 3 in 2, 2 in 3", NOT, ChangeBoundsTest::twoWithin, x -> x.move(2, 4, 6, 3));
    leaves("11 ef behind d: 3 in 2, 2 in 3", NOT, ChangeBoundsTest::twoWithin, x -> x.move(2, 4, 6, 4));
    due("11 ef behind b", twoWithin().move(2, 4, 6, 2), 3);
    due("11 ef at 0", twoWithin().move(2, 4, 6, 0), 3);
    due("11 ef behind f", twoWithin().move(2, 4, 6, 6), 3);
    due("11 e alone behind a", twoWithin().move(2, 4, 5, 1), 3);
    due("11 cd behind a: 3 in 1, 1 in 3", twoWithin().move(2, 2, 4, 1), NOT);
    due("11 cd behind e", twoWithin().move(2, 2, 4, 5), 3);
    Desk x = twoWithin();
    due("11 a fourth: 3 in 2", x.move(2, 4, 5, 4), 3);
    due("11 df behind a: 4 in 1, 1 in 2, 2 and 3 in 4", x.move(3, 3, 6, 1), NOT);
    due("11 df at 0", x.move(3, 3, 6, 0), 4);
  }

  /** c b d e f a; a is in 1 still, and STANDS in 2. */
  private static Desk aTwice() {
    Desk x = desk("abcdef");
    x.move(0, 0, 2, 3);
    x.move(0, 1, 2, 6);
    return x;
  }

  private static void roundInOneView() {
    due("11 cbdefa", text(aTwice(), 3) + told(aTwice(), 3, 3) + told(aTwice(), 3, 5), "cbdefa" + "010002" + "010002");
    leaves("11 cbd behind a: 3 in 1, 1 in 3", NOT, ChangeBoundsTest::aTwice, x -> x.move(0, 0, 3, 6));
    due("11 cbd behind f", aTwice().move(0, 0, 3, 5), 3);
    due("11 c b behind a", aTwice().move(0, 0, 2, 6), 3);
    due("11 b d behind a: 3 in 1, 1 in 3", aTwice().move(0, 1, 3, 6), NOT);
    due("11 TAKEN ones, another hand", settled(aTwice(), true, 1, 2).move(2, 0, 3, 6), NOT);
    due("11 TAKEN ones, not round", settled(aTwice(), true, 1, 2).move(2, 0, 3, 5), 3);
  }

  private static void roundThroughSettled() {
    due("11 round by a REFUSED one", settled(abBehindC(), false, 1).move(1, 2, 4, 1), NOT);
    Desk x = settled(abBehindC(), true, 1);
    due("11 not round by a TAKEN one: all of cabd", x.move(1, 0, 4, 4) + " " + text(x, 2), "2 abcd");
    due("11 round by REFUSED ones, by a third", settled(twoWithin(), false, 1, 2).move(2, 4, 6, 1), NOT);
    Desk y = settled(abBehindC(), false, 1);
    y.clean();
    due("11 no TOKEN is left", y.move(1, 2, 4, 1) + text(y, 4), "2acdb");
    Desk z = settled(abBehindC(), true, 1);
    z.clean();
    due("11 cabd: d and b behind a", text(z, 0) + z.move(1, 2, 4, 1) + text(z, 4), "cabd" + "2" + "cbda");
  }

  /** The TOKEN that goes along has one within itself. */
  private static void roundByTokensAlong() {
    Desk x = desk("abcdef");
    x.move(0, 1, 2, 4);
    due("11 a c d T1 b e f", text(x, 3), "acdbef");
    x.move(0, 4, 5, 4);
    due("11 2 in 1", text(x, 3) + told(x, 3, 3), "acdbef" + "000120");
    due("11 d .. e behind b for 1: 3 in 1", x.move(1, 3, 5, 2), NOT);
    due("11 d .. e behind f for 1", x.move(1, 3, 5, 6) + " " + text(x, 2), "3 acfdbe");
  }

  // ---- FULL: 240 LETTERS and TOKENS, 24 CHANGES

  private static void rowOf240() {
    Desk x = withLetters(239);
    due("7 the 240th", put(x, 0, 239, "c") + " " + x.count(0), "2 240");
    leaves("7 the 241st", FULL, () -> typed(fullRow(), "c"), d -> d.put(0, 0));
    leaves("7 two, one left", FULL, () -> typed(withLetters(239), "cd"), d -> d.put(1, 120));
    due("7 two, two left", put(withLetters(238), 1, 120, "cd"), 2);
    due("7 120, 120 left", put(desk(repeated("a", 120)), 3, 120, repeated("b", 120)), 1);
    Desk y = desk(repeated("a", 120));
    put(y, 0, 0, "b");
    due("7 120, 119 left", put(y, 3, 120, repeated("c", 120)) + " " + counts(y), "-3 121 0 1 1 0 0 120");
    Desk z = fullRow();
    due("8 .. 10 in a full row", row(z.strike(1, 0, 1), z.shape(1, 0, 1, 1), z.remark(1, 0, 1), z.cut(1, 60)), "2 3 4 5");
    due("13 cut in a full row", z.change(1, 4) + " " + z.change(5, 4) + " " + counts(z), "60 60 240 0 5 5 0 0 0");
  }

  private static void rowOf240Moved() {
    Desk x = withLetters(239);
    due("11 the 240th is a TOKEN", x.move(1, 0, 1, 5) + " " + counts(x), "2 239 1 2 2 0 0 0");
    due("11 the 241st", x.move(1, 0, 1, 5) + " " + counts(x), "-3 239 1 2 2 0 0 0");
    due("7 behind a TOKEN", put(x, 1, 0, "c") + " " + x.count(6), "-3 1");
    leaves("11 a full row", FULL, Checks::fullRow, d -> d.move(2, 3, 7, 0));
    Desk y = withLetters(238);
    y.move(1, 0, 1, 5);
    due("7 one left beside a TOKEN", put(y, 1, 0, "c") + " " + counts(y), "3 239 1 3 3 0 0 0");
  }

  /** LETTERS of a REFUSED PUT, STRUCK ones, TOKENS of REFUSED ones are of THE ROW until it is CLEANED. */
  private static void hiddenLettersFill() {
    Desk x = fullRow();
    x.settle(1, false);
    x.strike(0, 0, 100);
    x.settle(2, true);
    due("7 20 SHOWN, 240 in THE ROW", put(x, 0, 0, "c") + " " + x.length(1), "-3 20");
    due("11 20 SHOWN, 240 in THE ROW", x.move(0, 0, 1, 5), FULL);
    due("20 cleaned, room again", x.clean() + " " + x.put(0, 0) + " " + x.move(0, 1, 2, 5) + " " + counts(x), "20 3 4 21 1 4 2 1 1 0");
    Desk y = withLetters(239);
    y.move(1, 0, 1, 5);
    y.settle(2, false);
    due("7 a REFUSED one's TOKEN fills", put(y, 0, 0, "c"), FULL);
    due("20 cleaned, it does not", y.clean() + " " + y.put(0, 0), "239 3");
  }

  private static void changes24() {
    for (int kind = PUT; kind <= REMARK; kind++) {
      int k = kind;
      due("24th of KIND " + kind, oneMore(withChanges(desk("abcd"), 23), kind), 24);
      leaves("25th of KIND " + kind, FULL, () -> typed(fullOfChanges("abcd"), "x"), x -> oneMoreTyped(x, k));
    }
    Desk x = desk("abcd");
    x.strike(1, 0, 4);
    withChanges(x, 23);
    due("13 the 24th", x.cut(1, 2) + " " + x.change(24, 4), "24 2");
    due("13 the 25th", x.cut(1, 1) + " " + x.change(1, 4), "-3 2");
    Desk y = fullOfChanges("abcd");
    for (int n = 1; n <= 24; n++) y.settle(n, n % 2 == 0);
    y.clean();
    due("20 settled and cleaned, they have their numbers still", y.remark(0, 0, 1) + " " + y.count(2), "-3 24");
  }

  private static int oneMore(Desk x, int kind) { return oneMoreTyped(kind == PUT ? typed(x, "x") : x, kind); }

  private static int oneMoreTyped(Desk x, int kind) {
    return kind == PUT ? x.put(3, 4) : kind == MOVED ? x.move(3, 0, 2, 4) : mark(x, kind, 3, 0, 2);
  }

  private static void numbersAsTheyCome() {
    Desk x = desk("abcdefghijklmnop");
    for (int n = 1; n <= 24; n++) {
      due("T1 number " + n, oneMore(x, (n - 1) % 5), n);
      due("T1 its KIND and HAND", x.change(n, 0) + " " + x.change(n, 1) + " " + x.change(n, 2), (n - 1) % 5 + " 3 0");
    }
    due("T1 24", counts(x), "21 5 24 24 0 0 0");
  }

  // ---- 12 .. 16: of one CHANGE

  private static void numbersOfChanges() {
    Desk x = withChanges(desk("ab"), 3);
    for (int n : new int[] {0, 4, -1, 5, 24, 25, 32, 33, 35, 64 + 1, 256 + 1, 65536 + 1, LEAST, LEAST + 1, MOST}) {
      due("12 number " + n, x.settle(n, true) + x.settle(n, false), 2 * BAD);
      due("13 number " + n, x.cut(n, 1), BAD);
      due("14 number " + n, x.change(n, 0) + x.change(n, 4), 2 * BAD);
      due("15 number " + n, x.span(n, 0, false) + x.span(n, 0, true), 2 * BAD);
      due("16 number " + n, x.look(n, 1), BAD);
      due("17 number " + n, x.clash(n, 1) + x.clash(1, n) + x.clash(n, n), 3 * BAD);
    }
    Desk y = desk("ab");
    for (int n = 1; n <= 24; n++) y.shape(0, 0, 2, 1);
    for (int n : new int[] {1, 24}) {
      due("14 number " + n, change(y, n), "3 0 0 1 2");
      due("15 number " + n, y.span(n, 0, true), 1);
      due("16 number " + n, y.look(n, 2), 1);
      due("17 number " + n, y.clash(n, 12) + y.clash(12, n), 0);
      due("12 number " + n, y.settle(n, true), 1);
    }
    for (int n : new int[] {0, 25}) {
      due("12 .. 17 number " + n, row(y.settle(n, true), y.cut(n, 1), y.change(n, 0), y.span(n, 0, true), y.look(n, 1), y.clash(n, 1)),
          "-1 -1 -1 -1 -1 -1");
    }
  }

  private static void whatsOfChange() {
    Desk x = desk("abc");
    x.shape(2, 0, 3, 6);
    due("14 of it", change(x, 1), "3 2 0 6 3");
    for (int what : new int[] {-1, 5, 6, 32, 256, 65536, LEAST, LEAST + 1, MOST}) due("14 what " + what, x.change(1, what), BAD);
    x.settle(1, true);
    due("14 settled", change(x, 1), "3 2 1 6 3");
    x.clean();
    due("14 cleaned", change(x, 1), "3 2 1 6 0");
    Desk y = desk("abc");
    y.move(3, 0, 2, 3);
    due("14 MOVED, its own TOKEN is no LETTER", change(y, 1), "2 3 0 0 2");
    y.move(1, 0, 3, 0);
    due("14 MOVED, TOKENS in it are no LETTERS", change(y, 2), "2 1 0 0 3");
  }

  private static void settleBounds() {
    for (boolean taken : new boolean[] {true, false}) {
      Desk x = withChanges(desk("ab"), 2);
      due("12 OPEN", x.settle(2, taken) + " " + x.change(2, 2) + " " + x.change(1, 2), "1 " + (taken ? 1 : 2) + " 0");
      due("12 settled", x.settle(2, true) + " " + x.settle(2, false) + " " + x.change(2, 2), "-2 -2 " + (taken ? 1 : 2));
      due("12 counted", counts(x), "2 0 2 1 " + (taken ? "1 0" : "0 1") + " 0");
      x.clean();
      due("12 cleaned", x.settle(2, true) + " " + x.settle(2, false), "-2 -2");
    }
  }

  private static void anyOrder() {
    int[][] orders = {{1, 2, 3, 4, 5}, {5, 4, 3, 2, 1}, {3, 5, 1, 4, 2}};
    for (int[] order : orders) {
      Desk x = desk("abcd");
      put(x, 0, 1, "XY");
      x.strike(0, 0, 2);
      x.move(0, 0, 2, 4);
      x.shape(0, 0, 2, 3);
      x.remark(0, 0, 2);
      settled(x, true, order);
      due("12 in any order", text(x, NOW) + told(x, NOW, 1), text(x, OF_0) + told(x, OF_0, 1));
      due("12 the text", text(x, NOW), "cdYb");
    }
  }

  // ---- 13: cut

  private static Desk oneOf(int kind, int letters) {
    String text = "abcdefgh".substring(0, letters);
    Desk x = desk(kind == PUT ? "" : text);
    if (kind == PUT) put(x, 2, 0, text);
    else if (kind == SHAPED) x.shape(2, 0, letters, 5);
    else mark(x, kind, 2, 0, letters);
    return x;
  }

  private static void cutBounds() {
    for (int kind : new int[] {PUT, STRUCK, SHAPED, REMARK}) {
      for (int letters = 1; letters <= 5; letters++) {
        for (int k = -1; k <= letters + 1; k++) {
          Desk x = oneOf(kind, letters);
          boolean is = k >= 1 && k <= letters - 1;
          due("13 KIND " + kind + ", " + letters + " at " + k, x.cut(1, k), is ? 2 : NOT);
          due("13 LETTERS then", x.change(1, 4) + " " + x.change(2, 4), is ? k + " " + (letters - k) : letters + " -1");
        }
      }
      Desk y = oneOf(kind, 4);
      for (int k : new int[] {LEAST, LEAST + 1, -65536, 33, 256 + 1, 65536 + 1, MOST - 1, MOST}) due("13 at " + k, y.cut(1, k), NOT);
    }
    Desk z = fullRow();
    due("13 of 120 at 120, at 119", z.cut(1, 120) + " " + z.cut(1, 119) + " " + z.change(2, 4), "-2 2 1");
    Desk w = fullRow();
    w.remark(0, 0, 240);
    due("13 of 240 at 240, at 239", w.cut(2, 240) + " " + w.cut(2, 239) + " " + w.change(3, 4), "-2 3 1");
  }

  private static void cutInOrderOfTheRow() {
    Desk x = desk("abcd");
    x.shape(0, 0, 4, 1);
    x.move(0, 0, 2, 4);
    x.cut(1, 1);
    x.look(3, 7);
    due("13 a stays, bcd go", text(x, 3) + told(x, 3, 1), "cdab" + "7717");
    Desk y = desk("abcd");
    put(y, 1, 2, "WXYZ");
    y.strike(1, 0, 8);
    due("13 a STRUCK one of all, at 3", y.cut(2, 3) + settledText(settled(y, true, 1), 2), "3" + "XYZcd");
    Desk z = desk("ab");
    put(z, 1, 1, "WXYZ");
    due("13 a PUT twice", z.cut(1, 1) + " " + z.cut(2, 2) + " " + told(z, 4, 2), "2 3 012230");
    settled(z, true, 1, 3);
    settled(z, false, 2);
    due("13 each taken or refused", text(z, NOW), "aWZb");
  }

  private static void cutAlike() {
    Desk x = desk("abcd");
    x.shape(3, 0, 4, 6);
    due("13 SHAPED, alike", x.cut(1, 3) + " " + change(x, 2), "2 3 3 0 6 1");
    x.look(2, 1);
    due("13 on its own then", told(x, 6, 1) + x.change(1, 3), "6661" + "6");
    Desk y = desk("abcd");
    y.shape(0, 0, 4, 2);
    y.shape(0, 0, 4, 3);
    y.cut(1, 2);
    due("13 its number is the latest", told(y, 3, 1), "3322");
    for (int kind : new int[] {PUT, STRUCK, REMARK}) {
      Desk z = oneOf(kind, 4);
      z.cut(1, 1);
      due("13 alike, KIND " + kind, change(z, 2), kind + " 2 0 0 3");
    }
  }

  private static void cutSettled() {
    for (int kind : new int[] {PUT, STRUCK, SHAPED, REMARK}) {
      for (boolean taken : new boolean[] {true, false}) {
        due("13 settled, KIND " + kind, settled(oneOf(kind, 4), taken, 1).cut(1, 2), NOT);
      }
    }
    for (int k = -1; k <= 5; k++) {
      Desk x = desk("abcd");
      x.move(0, 0, 4, 0);
      due("13 MOVED at " + k, x.cut(1, k) + x.cut(1, LEAST) + x.cut(1, MOST), 3 * CAST);
      x.settle(1, k > 2);
      due("13 MOVED, settled", x.cut(1, k), CAST);
    }
  }

  private static void cutLettersNotThere() {
    Desk x = desk("abcd");
    x.remark(0, 0, 4);
    x.strike(1, 0, 3);
    x.settle(2, true);
    due("13 LETTERS that are not THERE are its, too", x.cut(1, 3) + " " + x.change(1, 4) + " " + x.change(3, 4), "3 3 1");
    x.clean();
    due("13 its LETTERS are gone", row(x.change(1, 4), x.cut(1, 0), x.cut(1, 1), x.cut(1, -1), x.cut(3, 1)), "0 -2 -2 -2 -2");
  }

  // ---- 15: span, 16: look

  private static void spanBounds() {
    Desk x = desk("abcdef");
    x.remark(0, 0, 1);
    x.remark(0, 5, 6);
    x.remark(0, 0, 6);
    x.strike(1, 0, 1);
    x.strike(2, 5, 6);
    due("15 at the first place", x.span(1, 0, false) + " " + x.span(1, 0, true), "0 0");
    due("15 at the last place", x.span(2, 0, false) + " " + x.span(2, 0, true), "5 5");
    due("15 all", x.span(3, 0, false) + " " + x.span(3, 0, true), "0 5");
    due("15 not SHOWN", x.span(1, 4, false) + x.span(1, 4, true) + x.span(2, 5, false) + x.span(2, 2, true), 4 * NOT);
    due("15 some SHOWN", x.span(3, 4, false) + " " + x.span(3, 4, true) + " " + x.span(3, 5, true) + " " + x.span(3, 2, true), "0 4 4 3");
    due("15 STRUCK, in its own VIEW", x.span(4, 4, true) + " " + x.span(4, 0, true), "-2 0");
    settled(x, true, 4, 3);
    due("15 settled", x.span(3, 1, false) + " " + x.span(3, 1, true) + " " + x.span(3, 0, true), "0 4 5");
    x.clean();
    due("15 cleaned", x.span(3, 0, false) + x.span(4, 0, true) + x.span(1, 0, true), 3 * NOT);
    due("15 OPEN ones then", x.span(2, 0, false) + " " + x.span(2, 0, true), "4 4");
    Desk y = desk("ab");
    y.move(0, 0, 1, 2);
    y.strike(0, 1, 2);
    due("15 a MOVED one's TOKEN is not SHOWN", y.span(1, 3, false) + " " + y.span(1, 0, true), "-2 0");
  }

  private static void lookBounds() {
    for (int kind : new int[] {PUT, STRUCK, REMARK}) {
      Desk x = oneOf(kind, 2);
      due("16 KIND " + kind, x.look(1, 1) + " " + x.look(1, 7) + " " + x.change(1, 3), "-13 -13 0");
      due("16 KIND " + kind + ", settled", settled(x, true, 1).look(1, 1), CAST);
    }
    Desk y = desk("ab");
    y.move(0, 0, 1, 2);
    due("16 MOVED", y.look(1, 1), CAST);
    for (boolean taken : new boolean[] {true, false}) {
      Desk z = settled(oneOf(SHAPED, 2), taken, 1);
      due("16 settled", z.look(1, 1) + " " + z.look(1, 5) + " " + z.change(1, 3), "-2 -2 5");
    }
    Desk w = oneOf(SHAPED, 2);
    due("16 the same one", w.look(1, 5) + " " + w.look(1, 5), "5 5");
  }

  // ---- 17, 18: clashes

  private static Desk struckAndRemark() {
    Desk x = desk("abcd");
    x.strike(0, 0, 2);
    x.remark(1, 1, 3);
    return x;
  }

  private static void clashStates() {
    due("17 OPEN", struckAndRemark().clash(1, 2) + " " + struckAndRemark().clash(2, 1) + " " + struckAndRemark().clashes(), "4 4 1");
    for (int n = 1; n <= 2; n++) {
      for (boolean taken : new boolean[] {true, false}) {
        Desk x = settled(struckAndRemark(), taken, n);
        due("17 one is settled", x.clash(1, 2) + " " + x.clash(2, 1) + " " + x.clashes(), "0 0 0");
      }
    }
    due("17 they are one", struckAndRemark().clash(1, 1) + struckAndRemark().clash(2, 2), 2 * BAD);
    due("17 a settled one is one, too", settled(struckAndRemark(), true, 1).clash(1, 1), BAD);
    due("17 no such number", struckAndRemark().clash(1, 3) + struckAndRemark().clash(3, 1) + struckAndRemark().clash(0, 1), 3 * BAD);
  }

  private static void clashHands() {
    for (int a = 0; a <= 3; a++) {
      for (int b = 0; b <= 3; b++) {
        Desk x = desk("abcd");
        x.remark(a, 0, 2);
        x.strike(b, 1, 3);
        due("17 HANDS " + a + " and " + b, x.clash(1, 2) + " " + x.clashes(), a == b ? "0 0" : "4 1");
      }
    }
  }

  /** [0, 2) and [from, 4): one LETTER in both, or none. */
  private static void clashLetters() {
    for (int from = 1; from <= 2; from++) {
      int common = from == 1 ? 1 : 0;
      Desk x = desk("abcd");
      x.strike(0, 0, 2);
      x.remark(1, from, 4);
      x.shape(1, from, 4, 3);
      x.shape(2, 0, 2, 4);
      due("17 STRUCK and REMARK from " + from, x.clash(1, 2), 4 * common);
      due("17 STRUCK and SHAPED from " + from, x.clash(1, 3), 4 * common);
      due("17 SHAPED ones from " + from, x.clash(3, 4), 3 * common);
      Desk y = desk("abcd");
      y.move(0, 0, 2, 4);
      y.move(1, from, 4, 0);
      due("17 MOVED ones from " + from, y.clash(1, 2) + " " + y.clashes(), 2 * common + " " + common);
    }
    Desk z = desk("abcd");
    z.remark(0, 0, 4);
    z.strike(1, 0, 1);
    z.clean();
    due("17 a LETTER is left", z.clash(1, 2), 4);
    z.strike(2, 0, 1);
    z.settle(3, true);
    z.clean();
    due("17 LETTERS are gone", z.clash(1, 2) + z.clash(1, 3) + z.clashes(), 0);
  }

  /** All pairs of KINDS, all on the same LETTER. */
  private static void clashKinds() {
    int[][] due = new int[5][5];
    due[MOVED][MOVED] = 2;
    due[SHAPED][SHAPED] = 3;
    due[STRUCK][SHAPED] = due[SHAPED][STRUCK] = due[STRUCK][REMARK] = due[REMARK][STRUCK] = 4;
    for (int a = STRUCK; a <= REMARK; a++) {
      for (int b = STRUCK; b <= REMARK; b++) {
        Desk x = desk("abcd");
        if (a == MOVED) x.move(0, 1, 2, 4);
        else mark(x, a, 0, 1, 2);
        if (b == MOVED) x.move(1, 1, 2, 4);
        else if (b == SHAPED) x.shape(1, 1, 2, 2);
        else mark(x, b, 1, 1, 2);
        due("17 KINDS " + a + " and " + b, x.clash(1, 2) + " " + x.clash(2, 1), due[a][b] + " " + due[a][b]);
      }
    }
    Desk y = desk("ab");
    put(y, 0, 1, "XY");
    y.remark(1, 0, 2);
    y.shape(1, 0, 2, 1);
    y.move(1, 0, 2, 0);
    y.strike(1, 0, 2);
    due("17 with a PUT that they do not see", y.clash(1, 2) + y.clash(1, 3) + y.clash(1, 4) + y.clash(1, 5), 0);
  }

  private static void clashLooks() {
    for (int a = 1; a <= 7; a++) {
      Desk x = desk("ab");
      x.shape(0, 0, 1, a);
      for (int b = 1; b <= 7; b++) x.shape(1, 0, 1, b);
      for (int b = 1; b <= 7; b++) due("17 LOOKS " + a + " and " + b, x.clash(1, 1 + b), a == b ? 0 : 3);
      due("18 six of seven", x.clashes(), 6);
    }
  }

  private static void clashPairs() {
    due("18 none at all", new Desk().clashes() + desk("ab").clashes() + withChanges(desk("ab"), 1).clashes(), 0);
    Desk x = desk("ab");
    for (int n = 1; n <= 24; n++) x.shape(n % 4, 0, 1, 1 + n % 4);
    due("18 24 of four hands", x.clashes(), 24 * 23 / 2 - 4 * (6 * 5 / 2));
    for (int n = 1; n <= 23; n++) x.settle(n, true);
    due("18 one is OPEN", x.clashes(), 0);
    Desk y = withChanges(desk("ab"), 23);
    y.strike(1, 0, 1);
    due("18 the 24th with all others", y.clashes() + " " + y.clash(1, 24) + " " + y.clash(24, 23), "23 4 4");
  }
}
