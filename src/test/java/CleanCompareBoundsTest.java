import java.util.function.Supplier;

/**
 * Promises 19 and 20, and what the Terms say of COMPARED and CLEANED: each bound, with the number just within and the number
 * just beyond, and each empty case. A row's head is the promise.
 */
public final class CleanCompareBoundsTest extends Checks {
  public static void main(String[] args) {
    nothingCompared(); singleLetters(); keptStruckOrPut(); oneChangeAGap(); aGapAtEachPlace(); farBehind(); comparedAgain(); behindTheLastOfNow();
    compareAsNow(); compareLooksAtBytes(); compareChangesFull(); compareAll24(); compareRowFull(); compareAtFullLength(); tapeThen();
    nothingCleaned(); nothingSettled(); openMoved(); whatGoes(); whatStays(); rowBecomesNow(); movedWithin();
    looksTheirs(); looksEarlierOpen(); looksStayWithTheirLetters(); settledHaveNone(); lettersGone(); roomAgain(); tapeOverClean();
    end("CleanCompareBoundsTest");
  }

  /** Compares; of each new CHANGE its KIND's sign and how many LETTERS. */
  private static String compared(Desk x, int hand, String to) {
    int before = x.count(2);
    int made = typed(x, to).compare(hand);
    StringBuilder out = new StringBuilder(made < 0 ? "" + made : "");
    for (int n = before + 1; n <= x.count(2); n++) out.append("+-???".charAt(x.change(n, 0))).append(x.change(n, 4));
    return out.toString();
  }

  // ---- 19: compare

  private static void nothingCompared() {
    due("19 empty NOW, empty TAPE", new Desk().compare(0), 0);
    due("19 empty NOW", compared(new Desk(), 0, "abc"), "+3");
    due("19 empty TAPE", compared(desk("abc"), 0, ""), "-3");
    due("19 alike", compared(desk("abc"), 0, "abc"), "");
    Desk x = desk("abc");
    x.strike(1, 0, 3);
    x.settle(1, true);
    due("19 empty NOW, not an empty ROW", compared(x, 0, "xy") + " " + text(x, 2) + " " + counts(x), "+2 xy 5 0 2 1 1 0 0");
    due("19 it is at the beginning of THE ROW", text(settled(x, true, 2), 1) + x.clean() + text(x, 0), "xy" + "2" + "xy");
    Desk y = desk("abc");
    put(y, 0, 1, "X");
    due("19 an OPEN PUT is not of NOW", compared(y, 0, "abc"), "");
    y.settle(1, true);
    due("19 a TAKEN one is", compared(y, 0, "abc"), "-1");
    y.settle(2, false);
    due("19 STRUCK, REFUSED", compared(y, 0, "aXbc"), "");
  }

  private static void singleLetters() {
    due("19 kept", compared(desk("a"), 3, "a"), "");
    due("19 another", compared(desk("a"), 3, "b"), "-1+1");
    due("19 one more", compared(desk("a"), 3, "aa"), "+1");
    due("19 one less", compared(desk("aa"), 3, "a"), "-1");
    due("19 least and greatest byte", compared(desk(" ~"), 3, "~ "), "-1+1");
  }

  private static void keptStruckOrPut() {
    Desk x = desk("ab");
    due("19 as many without a: STRUCK", compared(x, 0, "ba") + told(x, 0, 4), "-1+1" + "10");
    Desk y = desk("ab");
    due("19 less without a: PUT", compared(y, 0, "xab") + text(y, 3), "+1" + "xab");
    Desk z = desk("aba");
    due("19 alike ones are kept from the left", compared(z, 0, "a") + told(z, 0, 4), "-2" + "011");
    Desk w = desk("a");
    due("19 PUT ones behind what is kept", compared(w, 0, "aaa") + told(w, 3, 2), "+2" + "011");
    Desk v = desk("abc");
    due("19 PUT, for bc would be less", compared(v, 0, "cabc") + told(v, 3, 2), "+1" + "1000");
    Desk u = desk("abab");
    due("19 STRUCK, as bab is as long as can be", compared(u, 0, "bab") + told(u, 0, 4), "-1" + "1000");
    Desk t = desk("xaby");
    due("19 all at once", compared(t, 0, "abz") + text(t, 3) + told(t, 0, 4), "-1-1+1" + "abz" + "1001");
  }

  private static void oneChangeAGap() {
    Desk x = desk("11a22b33");
    due("19 ahead, between, behind", compared(x, 2, "44a55b66"), "-2+2-2+2-2+2");
    due("19 of the hand", change(x, 1) + "/" + change(x, 6), "1 2 0 0 2/0 2 0 0 2");
    due("19 from the left, the PUT behind the STRUCK", told(x, 0, 4) + told(x, 5, 2), "11011011" + "22044066");
    due("19 text", text(x, 5) + text(x, 2) + text(x, 1), "44a55b66" + "44a55b66" + "11a22b33");
    due("19 one by one", text(settled(x, true, 3), 1) + text(settled(x, true, 4), 1), "11ab33" + "11a55b33");
    due("19 ahead of the first alone", compared(desk("ab"), 0, "xyab"), "+2");
    due("19 behind the last alone", compared(desk("ab"), 0, "abxy"), "+2");
    due("19 STRUCK ahead of the first alone", compared(desk("xyab"), 0, "ab"), "-2");
    due("19 STRUCK behind the last alone", compared(desk("abxy"), 0, "ab"), "-2");
    due("19 two kept, nothing between", compared(desk("ab"), 0, "xaby"), "+1+1");
  }

  /** At each place of the longest TAPE: one is STRUCK, one PUT, two change places. */
  private static void aGapAtEachPlace() {
    for (int p = 0; p <= 119; p++) {
      String left = repeated("d", p), right = repeated("d", 119 - p);
      Desk x = desk(left + "x" + right);
      due("19 STRUCK at " + p, compared(x, 1, left + right) + " " + x.span(1, 0, false), "-1 " + p);
      Desk y = desk(left + right);
      due("19 PUT at " + p, compared(y, 1, left + "x" + right) + " " + y.span(1, 4, true), "+1 " + p);
      if (p == 119) continue;
      right = right.substring(1);
      Desk z = desk(left + "xy" + right);
      due("19 two at " + p, compared(z, 1, left + "yx" + right) + " " + z.span(1, 0, false) + " " + z.span(2, 4, true), "-1+1 " + p + " " + (p + 1));
    }
  }

  /** What is STRUCK far behind in THE TAPE is not what would be at its beginning. */
  private static void farBehind() {
    for (int q = 3; q <= 118; q++) {
      String many = repeated("d", q);
      Desk x = desk(many + "xy");
      due("19 one x PUT, one STRUCK, " + q + " apart", compared(x, 1, "x" + many.substring(1) + "y") + " " + x.span(3, 0, false), "-1+1-1 " + q);
    }
  }

  /** Nothing of an earlier comparison is left. */
  private static void comparedAgain() {
    Desk x = desk("abc");
    due("19 first", compared(x, 0, "abc"), "");
    x.strike(0, 2, 3);
    x.settle(1, true);
    due("19 again, a shorter NOW", compared(x, 0, "cb"), "-1+1");
    due("19 again, a shorter TAPE", compared(x, 1, "b"), "-1");
    due("19 again, alike", compared(x, 2, "ab"), "");
    leaves("19 again, FULL", FULL, () -> { Desk y = withChanges(desk("abc"), 23); y.compare(0); return typed(y, "b"); }, y -> y.compare(1));
    leaves("19 again, no longer than before, FULL", FULL, CleanCompareBoundsTest::comparedAlike, y -> y.compare(1));
    leaves("19 again, a full ROW", FULL, () -> { Desk y = halfHidden(240); compared(y, 0, "a"); return typed(y, "ax"); }, y -> y.compare(1));
    Desk z = fullOfChanges("ab");
    due("19 FULL, then not", compared(z, 1, "xb") + " " + z.begin() + " " + compared(z, 1, "xby"), "-3 2 +1");
  }

  private static Desk comparedAlike() {
    Desk x = withChanges(desk("abc"), 23);
    typed(x, "abc").compare(0);
    return typed(x, "axc");
  }

  private static void behindTheLastOfNow() {
    Desk x = desk("ab");
    put(x, 1, 1, "!");
    due("19 behind a, earlier ones stay behind", compared(x, 0, "aXb") + text(x, 2), "+1" + "aX!b");
    Desk y = desk("ab");
    put(y, 1, 1, "!");
    due("19 behind a that is STRUCK", compared(y, 0, "Xb") + settledText(y, 3), "-1+1" + "aXb");
    due("19 the earlier ones", text(settled(y, true, 1), 1), "aX!b");
    Desk z = desk("ab");
    put(z, 1, 2, "!");
    due("19 behind the last", compared(z, 0, "abX") + text(z, 2), "+1" + "abX!");
    Desk w = desk("ab");
    w.strike(1, 1, 2);
    w.settle(1, true);
    due("19 behind the last of NOW", compared(w, 0, "aX") + " " + w.clean() + text(w, 2), "+1 2aX");
    Desk v = desk("abc");
    v.strike(1, 1, 2);
    v.settle(1, true);
    due("19 behind a, ahead of b that is not THERE", compared(v, 0, "aXc") + " " + told(v, 3, 2), "+1 020");
    due("19 order in THE ROW", text(settled(v, true, 2), 0) + text(v, 1), "abc" + "aXc");
    Desk u = desk("ab");
    put(u, 1, 0, "!");
    due("19 at the beginning, earlier ones behind", compared(u, 0, "Xab") + text(u, 2), "+1" + "X!ab");
  }

  private static void compareAsNow() {
    Desk x = desk("abcd");
    x.strike(0, 0, 2);
    due("19 STRUCK again, as in NOW", compared(x, 0, "cd") + told(x, 0, 4), "-2" + "2200");
    Desk y = desk("abcd");
    y.move(0, 0, 2, 4);
    due("19 an OPEN MOVED one is not of NOW", compared(y, 0, "abcd") + compared(y, 1, "abXcd") + text(y, 4), "" + "+1" + "abXcd");
    due("19 behind b, in its MOVED ones", told(y, 4, 5) + text(y, 2), "11100" + "cdabX");
    Desk z = desk("abcd");
    z.move(0, 0, 2, 4);
    z.settle(1, true);
    due("19 a TAKEN one is", compared(z, 1, "cdab") + compared(z, 1, "abcd") + text(z, 4), "" + "-2+2" + "abcd");
    due("19 PUT behind b, in its MOVED one", told(z, 4, 3) + told(z, 4, 2), "1111" + "0033");
  }

  private static void compareLooksAtBytes() {
    Desk x = desk("aa");
    x.shape(0, 0, 1, 3);
    x.remark(1, 0, 1);
    settled(x, true, 1, 2);
    due("19 LOOKS are no matter", compared(x, 2, "aa"), "");
    due("19 signs are", compared(x, 2, "aA"), "-1+1");
  }

  private static void compareChangesFull() {
    due("19 22 and two", compared(withChanges(desk("ab"), 22), 1, "ax"), "-1+1");
    due("19 23 and one, STRUCK", compared(withChanges(desk("ab"), 23), 1, "a"), "-1");
    due("19 23 and one, PUT", compared(withChanges(desk("ab"), 23), 1, "abx"), "+1");
    due("19 24 and none", compared(fullOfChanges("ab"), 1, "ab"), "");
    leaves("19 23 and two", FULL, () -> typed(withChanges(desk("ab"), 23), "ax"), x -> x.compare(1));
    leaves("19 22 and three", FULL, () -> typed(withChanges(desk("ab"), 22), "xay"), x -> x.compare(1));
    leaves("19 24 and one, STRUCK", FULL, () -> typed(fullOfChanges("ab"), "a"), x -> x.compare(1));
    leaves("19 24 and one, PUT", FULL, () -> typed(fullOfChanges("ab"), "abx"), x -> x.compare(1));
    leaves("19 24 and an empty TAPE", FULL, () -> fullOfChanges("ab"), x -> x.compare(1));
  }

  private static void compareAll24() {
    String now = "", other = "";
    for (char c = 'a'; c <= 'l'; c++) {
      now += "1" + c;
      other += "2" + c;
    }
    due("19 twelve gaps of two", typed(desk(now), other).compare(0), 24);
    due("19 .. and one", typed(desk(now), other + "2").compare(0), FULL);
    due("19 all of them", compared(desk(now), 0, other), repeated("-1+1", 12));
    leaves("19 25 CHANGES", FULL, typedThen(now, other + "2"), x -> x.compare(3));
    leaves("19 sixty gaps", FULL, typedThen(repeated("y", 60), repeated("zy", 60)), x -> x.compare(0));
    leaves("19 sixty STRUCK ones", FULL, typedThen(repeated("yz", 60), repeated("zz", 60)), x -> x.compare(0));
  }

  private static Supplier<Desk> typedThen(String first, String tape) { return () -> typed(desk(first), tape); }

  /** b .. a .. with b .. REFUSED: NOW is 120 a. */
  private static Desk halfHidden(int letters) { return settled(withLetters(letters), false, 1); }

  private static void compareRowFull() {
    String as = repeated("a", 118);
    due("19 one left, one PUT", compared(halfHidden(239), 0, as + "ax") + " ", "-1+1 ");
    leaves("19 one left, two PUT", FULL, () -> typed(halfHidden(239), as + "xy"), x -> x.compare(0));
    leaves("19 one left, two PUT apart", FULL, () -> typed(halfHidden(239), "x" + as.substring(1) + "ay"), x -> x.compare(0));
    due("19 none left, only STRUCK", compared(halfHidden(240), 0, as), "-2");
    due("19 none left, alike", compared(halfHidden(240), 0, as + "aa"), "");
    leaves("19 none left, one PUT", FULL, () -> typed(halfHidden(240), as + "x"), x -> x.compare(0));
    due("19 two left, two PUT", compared(halfHidden(238), 0, as + "xy"), "-2+2");
    due("19 120 left, 120 PUT", compared(desk(repeated("a", 120)), 0, repeated("x", 120)), "-120+120");
    Desk y = desk(repeated("a", 120));
    put(y, 1, 0, "b");
    due("19 119 left, 120 PUT", compared(y, 0, repeated("x", 120)) + " " + counts(y), "-3 121 0 1 1 0 0 120");
    leaves("19 THE ROW and the CHANGES", FULL, () -> typed(withChanges(settled(withLetters(240), true, 1), 24), "x"), x -> x.compare(0));
    Desk z = halfHidden(239);
    z.move(0, 0, 1, 5);
    due("19 a TOKEN is of THE ROW", typed(z, as + "ax").compare(0), FULL);
  }

  private static void compareAtFullLength() {
    Desk x = settled(fullRow(), true, 1);
    due("19 240 and 120", compared(x, 2, repeated("a", 120)) + told(x, 5, 2), "-120" + repeated("0", 120));
    Desk y = settled(fullRow(), true, 1);
    due("19 240 and 60 of each", compared(y, 2, repeated("b", 60) + repeated("a", 60)), "-60-60");
    due("19 240 and none", compared(settled(fullRow(), true, 1), 2, ""), "-240");
    due("19 240 and one", compared(settled(fullRow(), true, 1), 2, "a"), "-120-119");
  }

  private static void tapeThen() {
    Desk x = typed(desk("ab"), "abc");
    due("19 THE TAPE is empty then", x.compare(0) + " " + x.count(6) + " " + x.put(0, 0), "1 0 -2");
    Desk y = typed(desk("ab"), "ab");
    due("19 also where nothing is made", y.compare(0) + " " + y.count(6) + " " + y.count(2), "0 0 0");
    leaves("19 it stays when refused", BAD, () -> typed(desk("ab"), "abc"), d -> d.compare(4));
    leaves("19 it stays when refused", BAD, () -> typed(desk("ab"), "abc"), d -> d.compare(-1));
  }

  // ---- 20: clean

  private static void nothingCleaned() {
    due("20 an empty ROW", new Desk().clean(), 0);
    due("20 an empty ROW stays", seen(() -> { Desk x = new Desk(); x.clean(); return x; }), seen(Desk::new));
    due("20 one LETTER", desk("a").clean(), 1);
    due("20 240", fullRow().clean(), 240);
    due("20 240, TAKEN", settled(fullRow(), true, 1).clean(), 240);
    due("20 120 of 240", settled(fullRow(), false, 1).clean(), 120);
    Desk x = desk("abc");
    x.strike(0, 0, 3);
    due("20 an empty ROW then", settled(x, true, 1).clean() + " " + counts(x) + " " + lengths(x), "0 0 0 1 0 1 0 0 0 0 0 0 0 0 0");
    due("20 .. and PUT into it", put(x, 0, 0, "X") + text(x, 2), "2X");
  }

  private static Desk allOpen() {
    Desk x = desk("abcd");
    put(x, 0, 2, "XY");
    x.strike(1, 1, 3);
    x.shape(2, 0, 3, 5);
    x.remark(3, 2, 4);
    return typed(x, "tape");
  }

  private static void nothingSettled() {
    due("20 none is settled", allOpen().clean(), 6);
    due("20 all stays", seen(then(CleanCompareBoundsTest::allOpen, Desk::clean)), seen(CleanCompareBoundsTest::allOpen));
  }

  private static Desk moved(int... settled) {
    Desk x = desk("abcd");
    x.move(0, 0, 1, 4);
    x.move(1, 1, 2, 3);
    for (int n = 1; n <= settled.length; n++) if (settled[n - 1] > 0) x.settle(n, settled[n - 1] == 1);
    return x;
  }

  private static void openMoved() {
    leaves("20 two OPEN", NOT, () -> moved(0, 0), Desk::clean);
    leaves("20 the first one OPEN", NOT, () -> moved(0, 1), Desk::clean);
    leaves("20 the second one OPEN", NOT, () -> moved(2, 0), Desk::clean);
    int[][] states = {{1, 1}, {1, 2}, {2, 1}, {2, 2}};
    String[] texts = {"cbda", "bcda", "acbd", "abcd"};
    for (int i = 0; i < 4; i++) {
      Desk x = moved(states[i]);
      due("20 both settled", text(x, 1) + x.clean() + text(x, 0) + text(x, 2), texts[i] + "4" + texts[i] + texts[i]);
      due("20 no TOKENS, no LETTERS", x.count(1) + x.change(1, 4) + x.change(2, 4) + told(x, 0, 5) + told(x, 0, 3), "0" + "0000" + "0000");
    }
    Desk y = moved(1, 1);
    y.clean();
    y.move(2, 0, 1, 4);
    due("20 another OPEN one", y.clean() + " " + settled(y, false, 3).clean(), "-2 4");
  }

  /** Each LETTER with one PUT or none, and one STRUCK or none, in each state. */
  private static void whatGoes() {
    String[] states = {"OPEN", "TAKEN", "REFUSED"};
    for (int put = -1; put <= 2; put++) {
      for (int struck = -1; struck <= 2; struck++) {
        Desk x = desk("ab");
        if (put >= 0) put(x, 0, 1, "X");
        if (struck >= 0) x.strike(0, 1, 2);
        if (put > 0) x.settle(1, put == 1);
        if (struck > 0) x.settle(x.count(2), struck == 1);
        boolean goes = put == 2 || struck == 1;
        String what = "20 PUT " + (put < 0 ? "none" : states[put]) + ", STRUCK " + (struck < 0 ? "none" : states[struck]);
        int letters = put >= 0 ? 3 : 2;
        due(what, x.clean() + " " + x.count(0), (goes ? letters - 1 : letters) + " " + (goes ? letters - 1 : letters));
        due(what + ", its PUT's LETTERS", put >= 0 ? x.change(1, 4) : 0, put == 0 && !goes ? 1 : 0);
        due(what + ", its STRUCK one's LETTERS", struck >= 0 ? x.change(x.count(2), 4) : 0, struck == 0 && !goes ? 1 : 0);
        if (!goes && put != 0) due(what + ", of the FIRST TEXT", text(x, 0) + told(x, 0, 2), put == 1 ? "aXb000" : "ab00");
      }
    }
  }

  private static void whatStays() {
    Desk x = desk("abcd");
    put(x, 1, 4, "WX");
    put(x, 1, 6, "YZ");
    x.strike(2, 0, 1);
    x.strike(2, 0, 1);
    settled(x, true, 1);
    settled(x, false, 4);
    due("20 left", x.clean() + " " + text(x, 0) + " " + text(x, 4) + " " + text(x, 5), "8 abcdWX abcdWXYZ bcdWX");
    due("20 TAKEN ones are of the FIRST TEXT", told(x, 4, 2), "00000022");
    due("20 an OPEN STRUCK one has its own", told(x, 4, 4) + x.change(3, 4) + x.change(4, 4), "10000000" + "10");
    due("20 CHANGES have their numbers", counts(x), "8 0 4 2 1 1 0");
    due("20 settled OPEN ones go on", text(settled(x, true, 2, 3), 1), "bcdWXYZ");
    due("20 again", x.clean() + " " + text(x, 0) + " " + x.clean(), "7 bcdWXYZ 7");
  }

  private static void rowBecomesNow() {
    Desk x = desk("abcdef");
    x.move(0, 0, 2, 4);
    x.move(0, 4, 5, 0);
    x.move(1, 2, 3, 6);
    put(x, 2, 2, "P");
    x.strike(3, 5, 6);
    settled(x, true, 1, 3);
    settled(x, false, 2);
    String now = text(x, 1);
    due("20 NOW", now, "dabefc");
    due("20 left", x.clean(), 7);
    due("20 FIRST is as NOW was", text(x, 0) + " " + text(x, 1), now + " " + now);
    due("20 LETTERS that are not THERE, as if they were", text(x, 5) + " " + text(x, 6), "dabPefc dabec");
    due("20 OPEN ones keep theirs", told(x, 5, 2) + told(x, 0, 4), "0004000" + "000010");
  }

  /** What STANDS in one MOVED that STANDS in another one. */
  private static void movedWithin() {
    Desk x = desk("abcdef");
    x.move(0, 0, 1, 3);
    x.move(0, 1, 4, 6);
    due("20 one within another", text(x, 3), "befacd");
    settled(x, true, 1, 2);
    due("20 cleaned", x.clean() + text(x, 0) + counts(x), "6" + "befacd" + "6 0 2 0 2 0 0");
    Desk y = desk("abcdef");
    for (int n = 1; n <= 6; n++) y.move(0, 0, 3, 6);
    settled(y, true, 1, 3, 5, 6);
    settled(y, false, 2, 4);
    String now = text(y, 1);
    due("20 many", y.clean() + text(y, 0) + text(y, 2), 6 + now + now);
  }

  private static void looksTheirs() {
    Desk x = desk("abcdef");
    x.shape(0, 0, 6, 1);
    x.shape(0, 0, 4, 2);
    x.shape(0, 0, 2, 3);
    settled(x, true, 1, 2);
    settled(x, false, 3);
    due("20 of the latest TAKEN one", x.clean() + told(x, 0, 1) + told(x, 0, 6), "6" + "222211" + "000000");
    due("20 in all VIEWS", told(x, 1, 1) + told(x, 2, 1) + told(x, 6, 1), "222211222211222211");
    due("20 a later one counts ahead", x.shape(1, 0, 1, 7) + told(x, 4, 1) + told(x, 2, 1) + told(x, 3, 1), "4" + "722211722211222211");
    due("20 TAKEN then", settled(x, true, 4).clean() + told(x, 0, 1), "6722211");
    Desk y = desk("ab");
    y.shape(0, 0, 1, 5);
    y.shape(1, 0, 1, 6);
    y.settle(1, true);
    due("20 TAKEN, a later one OPEN", y.clean() + told(y, 0, 1) + told(y, 1, 1) + told(y, 3, 1) + told(y, 4, 1), "2" + "50505060");
    due("20 the OPEN one has its LETTER", y.change(2, 4) + told(y, 0, 6), "1" + "10");
    due("20 REFUSED then", settled(y, false, 2).clean() + told(y, 2, 1), "250");
    Desk z = desk("ab");
    put(z, 0, 1, "X");
    z.shape(0, 0, 3, 4);
    z.settle(2, true);
    due("20 LETTERS of an OPEN PUT, too", z.clean() + told(z, 0, 1) + told(z, 3, 1), "3" + "44" + "444");
  }

  /** An earlier OPEN one: it has such LETTERS, but counts for the others alone. */
  private static void looksEarlierOpen() {
    Desk x = desk("abcd");
    x.shape(0, 0, 4, 1);
    x.shape(1, 1, 3, 2);
    x.settle(2, true);
    due("20 before", told(x, 3, 1) + told(x, 4, 1), "12210220");
    x.clean();
    due("20 cleaned", told(x, 3, 1) + told(x, 4, 1) + told(x, 0, 1), "122102200220");
    due("20 its LETTERS", x.change(1, 4) + told(x, 0, 6) + x.span(1, 3, false) + x.span(1, 3, true), "4" + "1111" + "03");
    due("20 another LOOK of it", x.look(1, 7) + told(x, 3, 1), "17227");
    due("20 TAKEN", settled(x, true, 1).change(1, 2) + told(x, 1, 1), "17227");
    due("20 cleaned again", x.clean() + told(x, 0, 1) + x.change(1, 4), "4" + "7227" + "0");
    Desk y = desk("ab");
    y.shape(0, 0, 2, 1);
    y.shape(0, 0, 2, 2);
    y.settle(2, false);
    y.clean();
    due("20 behind a REFUSED one it counts", told(y, 3, 1), "11");
  }

  /** LETTERS come ahead of such ones, and they are MOVED: each keeps its own LOOK, new ones have none. */
  private static void looksStayWithTheirLetters() {
    Desk x = desk("abcd");
    x.shape(0, 1, 3, 5);
    x.shape(1, 0, 4, 2);
    x.shape(0, 2, 3, 6);
    settled(x, true, 1, 3);
    x.clean();
    due("20 own", told(x, 0, 1) + " " + told(x, 4, 1), "0560 2262");
    put(x, 2, 0, "XY");
    put(x, 2, 4, "Z");
    due("20 behind what is PUT", text(x, 5) + " " + told(x, 5, 1) + " " + told(x, 0, 1), "XYabZcd 0005060 0560");
    due("20 the OPEN one, too", told(x, 2, 1), "0022062");
    x.move(2, 2, 4, 7);
    due("20 MOVED", text(x, 5) + " " + told(x, 5, 1), "XYZcdab 0006005");
    settled(x, true, 4, 6);
    settled(x, false, 5);
    due("20 cleaned", x.clean() + text(x, 0) + " " + told(x, 0, 1) + " " + told(x, 4, 1), "6" + "XYcdab 006005 006222");
    x.strike(0, 2, 3);
    settled(x, true, 7);
    due("20 one goes", x.clean() + text(x, 0) + " " + told(x, 0, 1), "5XYdab 00005");
    typed(x, "efghij").begin();
    due("20 begun anew", told(x, 0, 1), "000000");
  }

  private static void settledHaveNone() {
    for (boolean taken : new boolean[] {true, false}) {
      Desk x = desk("abcdef");
      put(x, 0, 3, "XY");
      x.strike(1, 0, 1);
      x.move(2, 2, 4, 6);
      x.shape(3, 1, 5, 6);
      x.remark(0, 2, 6);
      settled(x, taken, 1, 2, 3, 4, 5);
      due("20 left", x.clean(), taken ? 7 : 6);
      int state = taken ? 1 : 2;
      due("20 settled ones", changes(x), "0 0 S 0 0/1 1 S 0 0/2 2 S 0 0/3 3 S 6 0/4 0 S 0 0/".replace("S", "" + state));
      for (int n = 1; n <= 5; n++) {
        due("20 no LETTERS", x.span(n, 0, false) + x.span(n, 2, true), 2 * NOT);
        due("20 settled still", x.settle(n, true) + " " + x.cut(n, 1), n == 3 ? "-2 -13" : "-2 -2");
        due("20 clash not", x.clash(n, n % 5 + 1), 0);
      }
      due("20 look", x.look(4, 1), NOT);
      due("20 no TOKENS", counts(x), (taken ? "7 0 5 0 5 0 0" : "6 0 5 0 0 5 0"));
      String nothing = repeated("0", taken ? 7 : 6);
      for (int what = 2; what <= 7; what++) due("20 told " + what, told(x, 0, what), nothing);
    }
  }

  /** A CHANGE whose LETTERS are gone is OPEN as before. */
  private static void lettersGone() {
    for (int kind : new int[] {PUT, STRUCK, SHAPED, REMARK}) {
      Desk x = desk("abcd");
      if (kind == PUT) put(x, 0, 1, "XY");
      else mark(x, kind, 0, 1, 3);
      x.strike(kind == PUT ? 0 : 1, 1, 3);
      x.settle(2, true);
      String none = kind + " 0 0 " + (kind == SHAPED ? 1 : 0) + " 0";
      due("20 KIND " + kind + ", its LETTERS go", x.clean() + " " + change(x, 1), (kind == PUT ? 4 : 2) + " " + none);
      due("20 span", x.span(1, 3, false) + x.span(1, 0, true) + x.span(1, 2, true), 3 * NOT);
      due("20 cut", x.cut(1, 1) + x.cut(1, 0) + x.cut(1, -1), 3 * NOT);
      x.remark(1, 0, 1);
      due("20 clash", x.clash(1, 3) + x.clash(1, 2) + x.clashes(), 0);
      due("20 look", x.look(1, 4), kind == SHAPED ? 1 : CAST);
      due("20 settle", x.settle(1, true) + " " + x.change(1, 2) + " " + text(x, 1), "1 1 " + (kind == PUT ? "abcd" : "ad"));
    }
    Desk y = desk("abcd");
    y.remark(0, 1, 3);
    y.strike(1, 1, 2);
    y.settle(2, true);
    y.clean();
    due("20 one of two is gone", y.change(1, 4) + " " + y.cut(1, 1) + " " + y.span(1, 0, true), "1 -2 1");
  }

  private static void roomAgain() {
    Desk x = settled(fullRow(), false, 1);
    due("20 120 left", x.clean() + " " + put(x, 0, 0, repeated("c", 120)) + " " + x.count(0), "120 2 240");
    due("20 full again", put(x, 0, 0, "d") + " " + x.clean(), "-3 240");
    Desk y = fullOfChanges("ab");
    for (int n = 1; n <= 24; n++) y.settle(n, n % 2 == 0);
    due("20 CHANGES are no fewer", y.clean() + " " + y.strike(0, 0, 1) + " " + y.count(2), "2 -3 24");
  }

  private static void tapeOverClean() {
    Desk x = typed(settled(fullOfChanges("ab"), true, 1, 24), "tape");
    due("20 THE TAPE stays", x.clean() + " " + x.count(6) + " " + x.begin() + text(x, 0), "2 4 4tape");
  }
}
