/**
 * Promises 1 to 6 and 21, and what the Terms say of THE ROW, CHANGES and VIEWS: each bound, with the number just within and
 * the number just beyond. A row's head is the promise, or T1 for the Terms.
 */
public final class TextBoundsTest extends Checks {
  public static void main(String[] args) {
    emptyDesk(); emptyDeskChanged();
    bytesOfAWord(); bytesBeyondN(); howManyBytes(); tapeOf120(); wildWords();
    beginBounds(); beginAnew(); views(); viewsOfThe24th(); viewNumbers();
    toldPlaces(); toldWhats(); toldCountsToTheFull(); toldOneOfEach(); placeBounds();
    standsInTheLatest(); tokenWhoseChangeCountsNot(); thereOrNot(); looksOfViews();
    countNumbers(); countStates(); lastCall();
    end("TextBoundsTest");
  }

  // ---- 1: a new object

  private static void emptyDesk() {
    due("1 counts", counts(new Desk()), "0 0 0 0 0 0 0");
    due("1 lengths", lengths(new Desk()), "0 0 0 0 0 0 0");
    for (int v = 0; v <= 6; v++) {
      Desk x = new Desk();
      for (int what = 0; what <= 7; what++) due("1 told(" + v + ", 0, " + what + ")", x.told(v, 0, what), BAD);
      due("1 told(" + v + ", -1, 0)", x.told(v, -1, 0), BAD);
      for (int other = 0; other <= 6; other++) due("1 place(" + v + ", 0, " + other + ")", x.place(v, 0, other), BAD);
    }
    Desk y = new Desk();
    for (int what = 0; what <= 4; what++) due("1 change 1", y.change(1, what), BAD);
    due("1 settle", y.settle(1, true), BAD);
    due("1 cut", y.cut(1, 1), BAD);
    due("1 span", y.span(1, 0, false), BAD);
    due("1 look", y.look(1, 1), BAD);
    due("1 clash", y.clash(1, 2), BAD);
    due("1 clashes", y.clashes(), 0);
  }

  /** An empty ROW has a place 0 and no SPAN. */
  private static void emptyDeskChanged() {
    for (int h = 0; h <= 3; h++) {
      Desk x = new Desk();
      due("1 strike", x.strike(h, 0, 0) + x.strike(h, 0, 1), 2 * BAD);
      due("1 shape", x.shape(h, 0, 0, 1) + x.shape(h, 0, 1, 1), 2 * BAD);
      due("1 remark", x.remark(h, 0, 0) + x.remark(h, 0, 1), 2 * BAD);
      due("1 move", x.move(h, 0, 0, 0) + x.move(h, 0, 1, 0) + x.move(h, 0, 1, 1), 3 * BAD);
      due("1 put, no tape", x.put(h, 0), NOT);
      due("1 put, beyond", put(x, h, 1, "a"), BAD);
      due("1 put", x.put(h, 0), 1);
      due("1 put, its letter", text(x, 3 + h) + counts(x), "a" + "1 0 1 1 0 0 0");
    }
    due("1 compare", new Desk().compare(0), 0);
    due("1 clean", new Desk().clean(), 0);
    due("1 begin", new Desk().begin(), 0);
  }

  // ---- 2: type

  /** Each place of the word in turn has the byte, the others an x. */
  private static void bytesOfAWord() {
    int[] within = {32, 33, 48, 125, 126};
    int[] beyond = {0, 1, 9, 10, 30, 31, 127, 128, 159, 160, 254, 255};
    for (int n = 1; n <= 8; n++) {
      for (int at = 0; at < n; at++) {
        for (int b : within) due("2 byte " + b + " of " + n, new Desk().type(wordWith(b, n, at), n), n);
        for (int b : beyond) due("2 byte " + b + " of " + n, new Desk().type(wordWith(b, n, at), n), BAD);
      }
    }
    Desk x = desk(" ~");
    due("2 least and greatest byte", x.told(0, 0, 0) + " " + x.told(0, 1, 0), "32 126");
  }

  private static long wordWith(int b, int n, int at) {
    long w = word("xxxxxxxx".substring(0, n));
    return w & ~(255L << 8 * at) | (long) b << 8 * at;
  }

  /** Bytes ahead of the n lowest are nobody's. */
  private static void bytesBeyondN() {
    for (int n = 1; n <= 7; n++) {
      long lowest = word("abcdefg".substring(0, n));
      long[] above = {-1L << 8 * n, 31L << 8 * n, 127L << 8 * n, Long.MIN_VALUE, 0};
      for (long ahead : above) {
        Desk x = new Desk();
        due("2 " + n + " lowest", x.type(lowest | ahead, n), n);
        due("2 one more of them", x.type(lowest | ahead, n + 1), BAD);
        x.begin();
        due("2 highest first", text(x, 0), "abcdefg".substring(0, n));
      }
    }
  }

  private static void howManyBytes() {
    long w = word("abcdefgh");
    due("2 n 0", new Desk().type(w, 0), BAD);
    due("2 n 1", new Desk().type(w, 1), 1);
    due("2 n 8", new Desk().type(w, 8), 8);
    due("2 n 9", new Desk().type(w, 9), BAD);
    due("2 n -1", new Desk().type(w, -1), BAD);
    for (int n : new int[] {LEAST, LEAST + 1, LEAST + 8, -8, 16, 64, 65, 256 + 1, 65536 + 8, MOST - 7, MOST}) {
      due("2 n " + n, new Desk().type(w, n), BAD);
    }
    Desk x = new Desk();
    due("2 behind THE TAPE", x.type(w, 2) + " " + x.type(w, 3) + " " + x.type(w, 1), "2 5 6");
    x.begin();
    due("2 in their order", text(x, 0), "ghfghh");
  }

  private static Desk tape(int bytes) { return typed(new Desk(), repeated("t", bytes)); }

  private static void tapeOf120() {
    due("2 119 and 1", tape(119).type('u', 1), 120);
    leaves("2 119 and 2", FULL, () -> tape(119), x -> x.type(word("uu"), 2));
    due("2 112 and 8", tape(112).type(word("abcdefgh"), 8), 120);
    leaves("2 113 and 8", FULL, () -> tape(113), x -> x.type(word("abcdefgh"), 8));
    leaves("2 120 and 1", FULL, () -> tape(120), x -> x.type('u', 1));
    leaves("2 120 and 8", FULL, () -> tape(120), x -> x.type(word("abcdefgh"), 8));
    for (int n = 1; n <= 8; n++) {
      long w = word("uuuuuuuu".substring(0, n));
      due("2 to 120 by " + n, tape(120 - n).type(w, n), 120);
      due("2 to 121 by " + n, tape(121 - n).type(w, n), FULL);
    }
    Desk x = tape(120);
    due("2 empty again", x.begin() + " " + x.type('u', 1), "120 1");
  }

  private static void wildWords() {
    for (int n = 1; n <= 8; n++) {
      due("2 least long", new Desk().type(Long.MIN_VALUE, n), BAD);
      due("2 greatest long", new Desk().type(Long.MAX_VALUE, n), BAD);
      due("2 -1", new Desk().type(-1L, n), BAD);
      due("2 0", new Desk().type(0L, n), BAD);
    }
    for (long w : new long[] {Long.MIN_VALUE, Long.MAX_VALUE, 0, -1}) {
      for (int n : new int[] {LEAST, -1, 0, 9, MOST}) due("2 " + w + ", " + n, new Desk().type(w, n), BAD);
    }
    due("2 eight least", new Desk().type(0x2020202020202020L, 8), 8);
    due("2 eight greatest", new Desk().type(0x7E7E7E7E7E7E7E7EL, 8), 8);
  }

  // ---- 3: begin

  private static void beginBounds() {
    due("3 of none", new Desk().begin(), 0);
    due("3 of one", tape(1).begin(), 1);
    due("3 of 120", tape(120).begin(), 120);
    Desk x = tape(120);
    x.begin();
    due("3 all of it", counts(x), "120 0 0 0 0 0 0");
    due("3 twice", x.begin() + " " + counts(x), "0 0 0 0 0 0 0 0");
  }

  private static void beginAnew() {
    due("3 out of a full row", seen(() -> { Desk x = typed(fullRow(), "abc"); x.begin(); return x; }), seen(() -> desk("abc")));
    due("3 out of 24 changes", seen(() -> { Desk x = typed(fullOfChanges("pq"), "abc"); x.begin(); return x; }),
        seen(() -> desk("abc")));
    Desk y = typed(fullOfChanges("pq"), "abc");
    y.begin();
    due("3 numbers from 1 to 24", withChanges(y, 24).count(2) + " " + y.remark(0, 0, 1), "24 -3");
    Desk w = fullOfChanges("pq");
    for (int n = 1; n <= 24; n++) w.settle(n, n % 2 == 0);
    typed(w, "abc").begin();
    due("3 settled ones, too: the new ones are OPEN", withChanges(w, 24).count(3) + " " + w.change(1, 2) + w.change(24, 2), "24 00");
    Desk z = desk("ab");
    z.shape(0, 0, 2, 5);
    z.settle(1, true);
    z.clean();
    typed(z, "cd").begin();
    due("3 LOOKS go, too", told(z, 0, 1) + z.shape(1, 0, 2, 3) + told(z, 2, 1), "00" + "1" + "33");
  }

  // ---- 4: length, and VIEWS

  /** FIRST 2; 1 LETTER is PUT and TAKEN; hands 0, 1, 2, 3 PUT 1, 2, 3, 4, OPEN; hand 3's 5 are REFUSED. */
  private static Desk unlikeViews() {
    Desk x = desk("ab");
    put(x, 0, 1, "T");
    x.settle(1, true);
    put(x, 0, 0, "0");
    put(x, 1, 0, "11");
    put(x, 2, 0, "222");
    put(x, 3, 0, "3333");
    put(x, 3, 0, "-----");
    x.settle(6, false);
    return x;
  }

  private static void views() {
    Desk x = unlikeViews();
    due("4 lengths", lengths(x), "2 3 13 4 5 6 7");
    due("4 before 0", x.length(-1), BAD);
    due("4 behind 6", x.length(7), BAD);
    due("T1 FIRST, NOW, ALL", text(x, 0) + " " + text(x, 1) + " " + text(x, 2), "ab aTb 3333222110aTb");
    due("T1 hands", text(x, 3) + " " + text(x, 4) + " " + text(x, 5) + " " + text(x, 6), "0aTb 11aTb 222aTb 3333aTb");
    due("4 all 240", lengths(fullRow()), "120 120 240 240 120 120 120");
    Desk y = desk("ab");
    y.strike(2, 0, 2);
    due("4 an empty view", lengths(y), "2 2 0 2 2 0 2");
    y.settle(1, true);
    due("4 an empty NOW", lengths(y), "2 0 0 0 0 0 0");
  }

  /** The 24th counts like any other. */
  private static void viewsOfThe24th() {
    for (int h = 0; h <= 3; h++) {
      Desk x = withChanges(desk("ab"), 23);
      put(x, h, 1, "X");
      due("T1 the 24th, OPEN, of " + h, lengths(x), new String[] {"2 2 3 3 2 2 2", "2 2 3 2 3 2 2", "2 2 3 2 2 3 2", "2 2 3 2 2 2 3"}[h]);
      x.settle(24, true);
      due("T1 the 24th, TAKEN", lengths(x), "2 3 3 3 3 3 3");
    }
    Desk y = withChanges(desk("ab"), 23);
    y.move(2, 0, 1, 2);
    due("T1 the 24th MOVED", text(y, 5) + text(y, 2) + text(y, 4) + told(y, 5, 3), "babaab" + "0o");
  }

  private static void viewNumbers() {
    Desk x = unlikeViews();
    for (int v : new int[] {-1, 7, 8, -7, 32, 64, 256, 65536, LEAST, LEAST + 1, MOST, MOST - 1}) {
      due("4 view " + v, x.length(v), BAD);
      due("5 view " + v, x.told(v, 0, 0), BAD);
      due("6 view " + v, x.place(v, 0, 0), BAD);
      due("6 other view " + v, x.place(0, 0, v), BAD);
      due("15 view " + v, x.span(1, v, false) + x.span(1, v, true), 2 * BAD);
    }
    for (int v = 0; v <= 6; v++) {
      due("5 view " + v, x.told(v, 0, 0) > 31, true);
      due("6 view " + v, x.place(v, 0, v), 0);
      due("15 view " + v, x.span(1, v, false), v == 0 ? NOT : v == 2 ? 11 : v < 2 ? 1 : v - 1);
    }
  }

  // ---- 5: told

  private static void toldPlaces() {
    Desk x = unlikeViews();
    String[] texts = {"ab", "aTb", "3333222110aTb", "0aTb", "11aTb", "222aTb", "3333aTb"};
    for (int v = 0; v <= 6; v++) {
      int last = texts[v].length() - 1;
      due("5 place 0 of " + v, (char) x.told(v, 0, 0), texts[v].charAt(0));
      due("5 last place of " + v, (char) x.told(v, last, 0), texts[v].charAt(last));
      for (int p : new int[] {-1, last + 1, last + 2, LEAST, LEAST + 1, 256, 65536, MOST}) {
        due("5 place " + p + " of " + v, x.told(v, p, 0) + x.told(v, p, 7), 2 * BAD);
      }
    }
    Desk y = fullRow();
    due("5 the 240th", y.told(2, 239, 0) + " " + y.told(2, 240, 0) + " " + y.told(0, 119, 0) + " " + y.told(0, 120, 0), "97 -1 97 -1");
  }

  private static void toldWhats() {
    Desk x = unlikeViews();
    for (int what : new int[] {-1, 8, 9, 32, 256, 65536, LEAST, LEAST + 1, MOST}) due("5 what " + what, x.told(1, 1, what), BAD);
    int[] due = {'T', 0, 1, 0, 0, 0, 0, 0};
    for (int what = 0; what <= 7; what++) due("5 what " + what, x.told(1, 1, what), due[what]);
  }

  /** A LETTER in 24 of a KIND, each OPEN or settled. */
  private static void toldCountsToTheFull() {
    Desk x = desk("ab");
    for (int n = 1; n <= 24; n++) {
      x.strike(n % 4, 0, 1);
      x.settle(n, false);
    }
    due("5 in 24 STRUCK", told(x, 0, 4) + text(x, 2), "o0" + "ab");
    Desk y = desk("ab");
    for (int n = 1; n <= 24; n++) y.move(n % 4, 0, 2, n % 2 * 2);
    due("5 in 24 MOVED", told(y, 0, 5) + text(y, 2) + told(y, 2, 3), "oo" + "ab" + "oo");
    Desk z = desk("ab");
    for (int n = 1; n <= 24; n++) z.shape(n % 4, 1, 2, 1 + n % 7);
    due("5 in 24 SHAPED", told(z, 0, 6) + told(z, 2, 1), "0o" + "04");
    Desk w = desk("ab");
    for (int n = 1; n <= 24; n++) settled(w, n % 2 == 0, w.remark(n % 4, 0, 2));
    due("5 in 24 REMARKS", told(w, 0, 7) + told(w, 1, 7), "oo" + "oo");
  }

  private static void toldOneOfEach() {
    Desk x = desk("abcd");
    put(x, 0, 2, "XY");
    x.strike(1, 1, 3);
    x.move(0, 1, 3, 6);
    x.shape(0, 4, 6, 6);
    x.remark(0, 5, 6);
    due("5 all of 0", text(x, 3), "aYcdbX");
    due("5 LOOKS", told(x, 3, 1), "000066");
    due("5 PUTS", told(x, 3, 2), "010001");
    due("5 where it STANDS", told(x, 3, 3), "000033");
    due("5 STRUCK", told(x, 3, 4), "001010");
    due("5 MOVED", told(x, 3, 5), "000011");
    due("5 SHAPED", told(x, 3, 6), "000011");
    due("5 REMARKS", told(x, 3, 7), "000001");
    settled(x, false, 2, 3, 4, 5);
    due("5 settled, too", told(x, 0, 4) + told(x, 0, 5) + told(x, 0, 6), "0110" + "0100" + "0100");
    due("5 STANDS in a REFUSED one not", told(x, 3, 3) + text(x, 3), "000000" + "abXYcd");
  }

  // ---- 6: place

  private static void placeBounds() {
    Desk x = unlikeViews();
    due("6 first and last", x.place(0, 0, 2) + " " + x.place(0, 1, 2), "10 12");
    due("6 beyond the last", x.place(0, 2, 2) + x.place(0, -1, 2) + x.place(0, MOST, 2) + x.place(0, LEAST, 2), 4 * BAD);
    due("6 beyond, though the other has it", x.place(0, 2, 1) + x.place(3, 4, 6), 2 * BAD);
    due("6 not SHOWN there", x.place(2, 0, 5) + x.place(2, 9, 6) + x.place(1, 1, 0), 3 * NOT);
    due("6 another hand's", x.place(2, 0, 6) + " " + x.place(2, 4, 5) + " " + x.place(2, 9, 3), "0 0 0");
    Desk y = desk("ab");
    y.strike(0, 0, 2);
    due("6 an empty view", y.place(0, 1, 3) + " " + y.place(3, 0, 0), NOT + " " + BAD);
    Desk z = fullRow();
    due("6 the 240th", z.place(2, 239, 1) + " " + z.place(1, 119, 3) + " " + z.place(2, 240, 1), "119 239 -1");
  }

  // ---- T1: what counts, STANDS, is THERE

  private static void standsInTheLatest() {
    Desk x = desk("abcd");
    x.move(0, 0, 1, 2);
    x.move(1, 0, 1, 3);
    x.move(2, 0, 1, 4);
    due("T1 hands'", text(x, 3) + " " + text(x, 4) + " " + text(x, 5), "bacd bcad bcda");
    due("T1 the latest of ALL", text(x, 2) + told(x, 2, 3), "bcda" + "0003");
    settled(x, false, 3);
    due("T1 the latest that counts", text(x, 2) + told(x, 2, 3), "bcad" + "0020");
    settled(x, true, 1);
    due("T1 TAKEN for all", text(x, 1) + " " + text(x, 5) + " " + text(x, 4), "bacd bacd bcad");
    settled(x, false, 2);
    due("T1 an earlier one left", text(x, 2) + told(x, 2, 3), "bacd" + "0100");
    due("T1 none counts", text(x, 0) + told(x, 0, 3), "abcd" + "0000");
  }

  /** At the place of a TOKEN whose CHANGE does not count is nothing. */
  private static void tokenWhoseChangeCountsNot() {
    Desk x = desk("abcd");
    x.move(0, 0, 2, 4);
    put(x, 0, 4, "X");
    due("T1 in its own", text(x, 3), "cdabX");
    x.settle(1, false);
    due("T1 REFUSED, back where it was", text(x, 3) + " " + text(x, 2) + " " + x.count(1), "abXcd abXcd 1");
    Desk y = desk("abcdef");
    y.move(1, 2, 3, 1);
    y.move(0, 0, 2, 6);
    due("T1 a TOKEN within", text(y, 2) + told(y, 2, 3), "defacb" + "000212");
    y.settle(1, false);
    due("T1 REFUSED, within", text(y, 2) + told(y, 2, 3), "cdefab" + "000022");
  }

  private static void thereOrNot() {
    Desk x = desk("abcd");
    x.strike(0, 0, 2);
    x.strike(1, 1, 3);
    due("T1 STRUCK of hands", text(x, 3) + " " + text(x, 4) + " " + text(x, 2) + " " + text(x, 5), "cd ad d abcd");
    x.settle(1, false);
    due("T1 one that counts is enough", text(x, 2) + " " + text(x, 3), "ad abcd");
    x.settle(2, true);
    due("T1 TAKEN", text(x, 1) + " " + text(x, 0), "ad abcd");
    Desk y = desk("ab");
    put(y, 0, 1, "XY");
    y.strike(0, 1, 2);
    due("T1 STRUCK in its PUT", text(y, 3) + " " + text(y, 1), "aYb ab");
    y.settle(2, true);
    due("T1 STRUCK is TAKEN, the PUT OPEN", text(y, 3) + " " + text(y, 1), "aYb ab");
    y.settle(1, false);
    due("T1 the PUT is REFUSED", text(y, 3) + " " + text(y, 2) + " " + y.count(0), "ab ab 4");
  }

  private static void looksOfViews() {
    Desk x = desk("ab");
    for (int look = 1; look <= 7; look++) x.shape(look % 4, 0, 1, look);
    due("T1 each VIEW's latest", x.told(0, 0, 1) + "" + x.told(1, 0, 1) + x.told(2, 0, 1), "007");
    due("T1 each hand's latest", x.told(3, 0, 1) + "" + x.told(4, 0, 1) + x.told(5, 0, 1) + x.told(6, 0, 1), "4567");
    due("T1 not of the next LETTER", told(x, 2, 1), "70");
    settled(x, true, 1);
    settled(x, false, 7);
    due("T1 an early one TAKEN", x.told(1, 0, 1) + "" + x.told(2, 0, 1) + x.told(6, 0, 1) + x.told(0, 0, 1), "1630");
  }

  // ---- 21: count

  private static void countNumbers() {
    Desk x = unlikeViews();
    due("21 counts", counts(x), "18 0 6 4 1 1 0");
    for (int what : new int[] {-1, 7, 8, 32, 256, 65536, LEAST, LEAST + 1, MOST}) due("21 what " + what, x.count(what), BAD);
    due("21 the tape", counts(tape(120)), "0 0 0 0 0 0 120");
    due("21 a full row", counts(fullRow()), "240 0 1 1 0 0 0");
    due("21 24 changes", counts(fullOfChanges("a")), "1 0 24 24 0 0 0");
  }

  private static void countStates() {
    Desk x = fullOfChanges("a");
    for (int n = 1; n <= 24; n++) {
      x.settle(n, n % 3 == 0);
      int taken = n / 3;
      due("21 settled " + n, counts(x), "1 0 24 " + (24 - n) + " " + taken + " " + (n - taken) + " 0");
    }
    due("21 cleaned", x.clean() + " " + counts(x), "1 1 0 24 0 8 16 0");
    Desk y = desk("ab");
    for (int n = 1; n <= 24; n++) y.move(0, 0, 1, 1);
    due("21 TOKENS are no LETTERS", counts(y), "2 24 24 24 0 0 0");
  }

  /** Nothing is promised behind the 512th call, but the 512th is. */
  private static void lastCall() {
    Desk x = desk("abc");
    put(x, 0, 3, "d");
    while (x.calls() < Desk.MOST_CALLS - 1) x.length(2);
    due("the 512th call", x.strike(0, 0, 1), 2);
  }
}
