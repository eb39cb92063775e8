/**
 * Runs of calls in which many sentences of the document meet, each answer worked out by hand: CHANGES of each KIND on the same
 * LETTERS and TOKENS, OPEN, TAKEN and REFUSED ones side by side in each VIEW, CHANGES cut in two and then settled otherwise,
 * compare and clean in the middle. A row's head is the run and the promises that meet.
 */
public final class MeetingsTest extends Checks {
  public static void main(String[] args) {
    everyKind(); movedWithinMoved(); comparedThenCut(); struckAheadOfWhatIsPut(); looksOverTwoCleanings(); readme();
    end("MeetingsTest");
  }

  private static String texts(Desk x) {
    StringBuilder out = new StringBuilder();
    for (int v = 0; v < 7; v++) out.append(v == 0 ? "" : " ").append(text(x, v));
    return out.toString();
  }

  // ---- all KINDS on the same LETTERS

  /** THE ROW then: a [7] b c Q X Y d e f [3] g h. */
  private static Desk metByAll() {
    Desk x = desk("abcdefgh");
    put(x, 0, 3, "XY");
    x.strike(1, 2, 5);
    x.move(2, 1, 4, 6);
    x.shape(3, 2, 7, 5);
    x.remark(0, 1, 6);
    put(x, 2, 5, "Q");
    x.move(0, 4, 6, 1);
    return x;
  }

  private static Desk metAndCut() {
    Desk x = metByAll();
    x.cut(5, 2);
    x.cut(1, 1);
    return x;
  }

  private static Desk metAndSettled() {
    Desk x = settled(metAndCut(), true, 1, 3);
    return settled(x, false, 9, 7);
  }

  private static void everyKind() {
    Desk x = metByAll();
    due("A 4 each VIEW", texts(x), "abcdefgh abcdefgh aYXfbQgh aYdbcXefgh abfgh aefbcQdgh abcdefgh");
    due("A 5 looks", told(x, OF_3, 1) + " " + told(x, ALL, 1), "00555550 00050050");
    due("A 5 standing", told(x, ALL, 3) + " " + told(x, OF_0, 3) + " " + told(x, OF_2, 3), "07003300 0770000000 000333300");
    due("A 5 in how many", told(x, 0, 4) + " " + told(x, 0, 5) + " " + told(x, 0, 6) + " " + told(x, 0, 7), "00111000 01120000 00111110 01110000");
    due("A 6 d", x.place(OF_0, 2, OF_2) + " " + x.place(OF_0, 2, ALL) + " " + x.place(OF_0, 2, 0), "6 -2 3");
    due("A 15 the REMARK", x.span(5, OF_0, false) + " " + x.span(5, OF_0, true) + " " + x.span(5, ALL, true), "1 5 4");
    due("A 17", x.clash(2, 4) + " " + x.clash(5, 2) + " " + x.clash(3, 7) + " " + x.clash(1, 2) + " " + x.clash(4, 5), "4 4 2 0 0");
    due("A 18", x.clashes(), 3);
    everyKindCut();
    everyKindSettled();
    everyKindCleaned();
  }

  private static void everyKindCut() {
    Desk x = metAndCut();
    due("A 13 the halves", change(x, 1) + "/" + change(x, 9) + "/" + change(x, 5) + "/" + change(x, 8), "0 0 0 0 1/0 0 0 0 1/4 0 0 0 2/4 0 0 0 3");
    due("A 13 each half clashes by itself", x.clash(2, 5) + " " + x.clash(8, 2) + " " + x.clashes(), "4 4 4");
    due("A 13 PUT", told(x, OF_0, 2), "0900010000");
    due("A 13 nothing else is seen", texts(x), texts(metByAll()));
  }

  private static void everyKindSettled() {
    Desk x = settled(metAndCut(), true, 1);
    x.settle(9, false);
    due("A 12 half of a PUT", text(x, NOW) + " " + text(x, ALL) + " " + text(x, OF_0), "abcXdefgh aXfbQgh adbcXefgh");
    x.settle(3, true);
    due("A 12 a MOVED one, for every VIEW", texts(x), "abcdefgh aXefbcdgh aXfbQgh adXefbcgh aXfbgh aXefbcQdgh aXefbcdgh");
    due("A 12 looks where they stand", told(x, OF_3, 1), "005505550");
    due("A 20 one MOVED is OPEN", x.clean(), NOT);
    due("A 12 d comes back", text(settled(x, false, 7), OF_0), "aXefbcdgh");
  }

  private static void everyKindCleaned() {
    Desk x = metAndSettled();
    due("A 20 left", x.clean() + " " + counts(x), "10 10 0 9 5 2 2 0");
    due("A 20 each VIEW", texts(x), "aXefbcdgh aXefbcdgh aXfbQgh aXefbcdgh aXfbgh aXefbcQdgh aXefbcdgh");
    due("A 20 PUT", told(x, OF_2, 2), "0000006000");
    due("A 20 CHANGES", changes(x), "0 0 1 0 0/1 1 0 0 3/2 2 1 0 0/3 3 0 5 5/4 0 0 0 2/0 2 0 0 1/2 0 2 0 0/4 0 0 0 2/0 0 2 0 0/");
    due("A 13 in THE ROW's new order", x.cut(2, 1) + " " + x.span(2, 0, true) + " " + x.span(10, 0, false) + " " + x.span(10, 0, true), "10 2 5 6");
    settled(x, true, 10);
    settled(x, false, 2);
    due("A 19 compared in the middle", typed(x, "aXfbZgh").compare(3), 2);
    due("A 19 what was made", change(x, 11) + "/" + change(x, 12), "1 3 0 0 1/0 3 0 0 1");
    due("A 19 each VIEW", texts(x), "aXefbcdgh aXefbgh aXfbZQgh aXefbgh aXefbgh aXefbQgh aXfbZgh");
    due("A 19 looks", told(x, OF_3, 1) + " " + x.clashes(), "0050050 0");
    due("A 20 again", x.clean() + " " + texts(x), "9 aXefbgh aXefbgh aXfbZQgh aXefbgh aXefbgh aXefbQgh aXfbZgh");
    due("A 20 LETTERS of OPEN ones", x.change(4, 4) + " " + x.change(5, 4) + " " + x.change(8, 4) + " " + x.change(10, 4), "3 1 1 0");
  }

  // ---- TOKENS in MOVED ones, those in others

  /** THE ROW then: a P Q b c [5] d e [1] f g h i j [2]; [1] is in 2 and 5. */
  private static Desk nested() {
    Desk x = desk("abcdefghij");
    x.move(0, 0, 2, 5);
    x.move(1, 3, 7, 10);
    put(x, 0, 4, "PQ");
    x.strike(2, 0, 4);
    x.move(0, 2, 8, 1);
    return x;
  }

  /** .. and [6] behind d, in 2; [5] in 6. */
  private static Desk nestedDeeper() {
    Desk x = nested();
    x.move(1, 0, 4, 7);
    return x;
  }

  private static void movedWithinMoved() {
    Desk x = nested();
    due("B 11 each VIEW", texts(x), "abcdefghij abcdefghij PQefhijg caPQbefdghij abchijdefg efghij abcdefghij");
    due("B 11 each stands in the latest one", told(x, OF_0, 3) + " " + told(x, ALL, 3), "055555500000 55550002");
    due("B 11 5 within 6, 6 within 5", x.move(1, 0, 4, 8) + " " + x.count(1) + " " + x.count(2), "-2 3 5");
    due("B 11 6 within 2", x.move(1, 0, 4, 7) + " " + text(x, OF_1) + " " + text(x, ALL), "6 ijdabchefg ijPQefhg");
    due("B 17 MOVED ones", x.clash(1, 6) + " " + x.clash(2, 5) + " " + x.clash(2, 6) + " " + x.clash(5, 6) + " " + x.clash(1, 2), "2 2 0 2 0");
    x.settle(4, false);
    due("B 12 STRUCK ones back where they stand", text(x, ALL) + " " + told(x, ALL, 3), "ijdabcPQefhg 002666555562");
    settled(x, true, 5);
    settled(x, false, 2);
    due("B 12 one TAKEN, one REFUSED", text(x, NOW) + " " + told(x, NOW, 3) + " " + x.clean(), "cabefdghij 0555500000 -2");
    settled(x, true, 6, 1);
    due("B 12 all settled", text(x, NOW) + " " + text(x, OF_0), "dabcefhgij dabcPQefhgij");
    due("B 20 also what is not THERE goes along", x.clean() + " " + texts(x),
        "12 dabcefhgij dabcefhgij dabcPQefhgij dabcPQefhgij dabcefhgij dabcefhgij dabcefhgij");
    due("B 20 no TOKENS", counts(x) + " " + told(x, OF_0, 5) + " " + told(x, OF_0, 2), "12 0 6 1 3 2 0 000000000000 000033000000");
    due("B 7 behind Q, in no MOVED one", put(x, 0, 6, "R") + " " + text(x, OF_0) + " " + told(x, OF_0, 5), "7 dabcPQRefhgij 0000000000000");
    movedTakenAtOnce();
  }

  private static void movedTakenAtOnce() {
    Desk x = nestedDeeper();
    typed(x, "ijdabchefg");
    due("B 19 OPEN ones are not of NOW", x.compare(1) > 0, true);
    Desk y = settled(nestedDeeper(), true, 2, 6);
    due("B 19 TAKEN ones are", typed(y, "ijdabchefg").compare(1) + " " + y.count(6), "0 0");
    due("B 19 PUT behind c, that stands in 6", typed(y, "ijdabcXhefg").compare(3) + " " + text(y, OF_3) + " " + told(y, OF_3, 3), "1 ijdabcXhefg 00266666222");
    due("B 19 it goes where c goes", text(y, OF_0) + " " + text(y, ALL), "ijdabcPQefhg ijXPQefhg");
  }

  // ---- compared, cut, settled, cleaned

  private static void comparedThenCut() {
    Desk x = desk("one two");
    due("C 19", typed(x, "one 2 two").compare(1) + " " + change(x, 1), "1 0 1 0 0 2");
    due("C 13", x.cut(1, 1) + " " + text(settled(settled(x, true, 1), false, 2), NOW), "2 one 2two");
    due("C 19 again", typed(x, "one two").compare(2) + " " + change(x, 3) + " " + x.span(3, NOW, false), "1 1 2 0 0 1 4");
    due("C 10", x.remark(0, 4, 5) + " " + x.shape(1, 3, 6, 6) + " " + x.clash(3, 4) + " " + x.clash(3, 5) + " " + x.clashes(), "4 5 4 4 2");
    due("C 13 one half clashes", x.cut(5, 2) + " " + x.clash(3, 5) + " " + x.clash(3, 6) + " " + x.clashes(), "6 4 0 2");
    due("C 12", x.settle(3, true) + " " + x.clashes() + " " + text(x, NOW) + " " + told(x, OF_1, 1), "1 0 one two 0006600");
    due("C 20", x.clean() + " " + text(x, FIRST) + " " + told(x, ALL, 2) + " " + told(x, ALL, 1), "7 one two 0000000 0006600");
    due("C 20 LETTERS", x.change(3, 4) + " " + x.change(4, 4) + " " + x.change(5, 4) + " " + x.change(6, 4), "0 0 1 1");
    due("C 13 nothing to cut", x.cut(4, 1) + " " + x.cut(5, 1) + " " + x.span(4, ALL, false) + " " + x.clash(4, 5), "-2 -2 -2 0");
    due("C 19 alike", typed(x, "one two").compare(0) + " " + counts(x), "0 7 0 6 3 2 1 0");
  }

  /** What is PUT behind a LETTER of NOW comes ahead of LETTERS that NOW does not show, and of those PUT there earlier. */
  private static void struckAheadOfWhatIsPut() {
    Desk x = desk("abcd");
    x.strike(0, 1, 3);
    put(x, 1, 2, "X");
    put(x, 0, 1, "Y");
    due("D each VIEW", texts(x), "abcd abcd aYXd aYd abXcd abcd abcd");
    x.settle(1, true);
    due("D 19 behind a, where NOW shows no b", typed(x, "aZd").compare(2) + " " + text(x, ALL) + " " + text(x, OF_1), "1 aZYXd aXd");
    x.settle(4, true);
    due("D 7 behind Z", put(x, 1, 2, "W") + " " + text(x, OF_1) + " " + text(x, ALL), "5 aZWXd aZWYXd");
    due("D 20 b and c go", x.clean() + " " + texts(x), "6 aZd aZd aZWYXd aZYd aZWXd aZd aZd");
    due("D 8 STRUCK by the hand that sees it", x.strike(1, 1, 4) + " " + text(x, OF_1) + " " + text(x, ALL), "6 ad aYd");
    due("D 13 its LETTERS of three PUTS", x.cut(6, 1) + " " + x.change(6, 4) + x.change(7, 4) + " " + x.clashes(), "7 12 0");
    settled(x, true, 7, 2);
    settled(x, false, 6);
    due("D 12 STRUCK, TAKEN, and its PUT, TAKEN", texts(x), "aZd aZd aZYd aZYd aZd aZd aZd");
    due("D 20 again", x.clean() + " " + texts(x) + " " + x.change(5, 4) + x.change(2, 4), "4 aZd aZd aZYd aZYd aZd aZd aZd 00");
  }

  private static void looksOverTwoCleanings() {
    Desk x = desk("abcd");
    x.shape(0, 0, 4, 1);
    x.shape(1, 0, 2, 2);
    x.shape(2, 1, 3, 3);
    x.cut(1, 2);
    due("E 9 the new number of cd is the latest", told(x, ALL, 1) + " " + told(x, OF_0, 1), "2311 1111");
    settled(x, true, 2);
    x.clean();
    due("E 20 1 counts no more, 3 and 4 do", told(x, FIRST, 1) + " " + told(x, OF_0, 1) + " " + told(x, OF_2, 1) + " " + told(x, ALL, 1), "2200 2211 2330 2311");
    due("E 20 1 has its LETTERS", x.change(1, 4) + " " + told(x, FIRST, 6) + " " + x.clash(1, 3), "2 1221 3");
    x.move(3, 0, 2, 4);
    settled(x, true, 5);
    settled(x, true, 3);
    due("E 12 TAKEN, MOVED", text(x, NOW) + " " + told(x, NOW, 1), "cdab 3023");
    due("E 20 again", x.clean() + " " + text(x, FIRST) + " " + told(x, FIRST, 1) + " " + told(x, OF_0, 1) + " " + told(x, FIRST, 6), "4 cdab 3023 1123 1111");
    settled(x, true, 1);
    due("E 20 TAKEN, it counts no more", x.clean() + " " + told(x, FIRST, 1) + " " + told(x, FIRST, 6), "4 3023 1100");
  }

  /** The example of README.md. */
  private static void readme() {
    Desk x = new Desk();
    due("README", x.type(0x616263L, 3) + " " + x.begin() + " " + x.type(0x5859L, 2), "3 3 2");
    due("README", x.put(0, 1) + " " + x.strike(1, 0, 2) + " " + x.settle(1, true), "1 2 1");
    due("README", text(x, NOW) + " " + x.length(1) + " " + x.told(1, 1, 0), "aXYbc 5 88");
    due("README", told(x, NOW, 2) + " " + x.clean() + " " + told(x, NOW, 2), "01100 5 00000");
  }
}
