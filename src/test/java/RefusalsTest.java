import java.util.function.IntFunction;
import java.util.function.Supplier;
import java.util.function.ToIntFunction;

/**
 * Refusals: of several the first that the call names; what is refused, or only asked, changes nothing; the wildest numbers are
 * answered like any other number that is not as told. A row's head is the promise.
 */
public final class RefusalsTest extends Checks {
  private static final int[] WILD = {
    LEAST, LEAST + 1, LEAST + 24, -65536, -257, -256, -33, -32, -25, -24, 32, 33, 64, 255, 256, 257, 65536, 65537, 1 << 24, 1 << 30,
    MOST - 24, MOST - 1, MOST,
  };

  public static void main(String[] args) {
    typeRefused(); askedRefused(); putRefused(); marksRefused(); moveRefused(); settleRefused(); cutRefused(); lookRefused();
    compareRefused(); cleanRefused(); askingChangesNothing(); refusedAgainAndAgain();
    wildTexts(); wildChanges(); wildOfOneChange(); wildTogether();
    end("RefusalsTest");
  }

  // ---- desks

  /** "abcdef", TAPE "pq"; 1 MOVED abc behind e; 2 SHAPED, TAKEN; 3 PUT XY of 2; 4 STRUCK, REFUSED; 5 REMARK. */
  private static Desk mixed() {
    Desk x = desk("abcdef");
    x.move(0, 0, 3, 5);
    x.shape(1, 1, 4, 2);
    put(x, 2, 3, "XY");
    x.strike(3, 0, 2);
    x.remark(1, 4, 6);
    x.settle(2, true);
    x.settle(4, false);
    return typed(x, "pq");
  }

  private static Desk mixedNoTape() {
    Desk x = mixed();
    x.compare(3);
    return x;
  }

  private static Desk fullTape() { return typed(mixed(), repeated("t", 118)); }

  private static Desk full24() { return typed(withChanges(mixed(), 24), "rs"); }

  private static Desk full24NoTape() { return withChanges(mixedNoTape(), 24); }

  private static Desk full240() { return typed(fullRow(), "pq"); }

  private static Desk full240NoTape() { return fullRow(); }

  private static Desk bothFull() { return typed(withChanges(fullRow(), 24), "pq"); }

  // Kept, as what is seen of each is looked at once.
  private static final Supplier<Desk> MIXED = RefusalsTest::mixed, NO_TAPE = RefusalsTest::mixedNoTape, FULL_TAPE = RefusalsTest::fullTape;
  private static final Supplier<Desk> FULL_24 = RefusalsTest::full24, FULL_24_NO_TAPE = RefusalsTest::full24NoTape;
  private static final Supplier<Desk> FULL_240 = RefusalsTest::full240, FULL_240_NO_TAPE = RefusalsTest::full240NoTape;
  private static final Supplier<Desk> BOTH_FULL = RefusalsTest::bothFull;

  // ---- what is refused changes nothing; the first that the call names

  private static void typeRefused() {
    leaves("2 n 0", BAD, MIXED, x -> x.type('a', 0));
    leaves("2 n 9", BAD, MIXED, x -> x.type(word("abcdefgh"), 9));
    leaves("2 the highest byte", BAD, MIXED, x -> x.type(31L << 56 | word("bcdefgh"), 8));
    leaves("2 the lowest byte", BAD, MIXED, x -> x.type(word("abcdefg") << 8 | 127, 8));
    leaves("2 n, a full TAPE", BAD, FULL_TAPE, x -> x.type('a', 9));
    leaves("2 a byte, a full TAPE", BAD, FULL_TAPE, x -> x.type(31, 1));
    leaves("2 the last byte, a full TAPE", BAD, FULL_TAPE, x -> x.type(word("abcdefg") << 8, 8));
    leaves("2 a full TAPE", FULL, FULL_TAPE, x -> x.type('a', 1));
  }

  private static void askedRefused() {
    leaves("4 view", BAD, MIXED, x -> x.length(7));
    leaves("5 view", BAD, MIXED, x -> x.told(-1, 0, 0));
    leaves("5 place", BAD, MIXED, x -> x.told(0, 6, 0));
    leaves("5 what", BAD, MIXED, x -> x.told(0, 0, 8));
    leaves("6 view", BAD, MIXED, x -> x.place(7, 0, 0));
    leaves("6 other", BAD, MIXED, x -> x.place(0, 0, 7));
    leaves("6 place", BAD, MIXED, x -> x.place(0, 6, 0));
    leaves("6 not SHOWN there", NOT, MIXED, x -> x.place(5, 3, 0));
    due("6 other, though not SHOWN", mixed().place(5, 3, 7) + mixed().place(5, 3, -1), 2 * BAD);
    leaves("14 number", BAD, MIXED, x -> x.change(6, 0));
    leaves("14 what", BAD, MIXED, x -> x.change(1, 5));
    leaves("15 number", BAD, MIXED, x -> x.span(6, 0, true));
    leaves("15 view", BAD, MIXED, x -> x.span(1, 7, true));
    leaves("15 none SHOWN", NOT, MIXED, x -> x.span(3, 0, true));
    due("15 view, none SHOWN", mixed().span(3, 7, true), BAD);
    leaves("17 number", BAD, MIXED, x -> x.clash(1, 6));
    leaves("17 one", BAD, MIXED, x -> x.clash(1, 1));
    leaves("21 what", BAD, MIXED, x -> x.count(7));
  }

  private static void putRefused() {
    leaves("7 hand", BAD, MIXED, x -> x.put(4, 0));
    leaves("7 place", BAD, MIXED, x -> x.put(0, 7));
    leaves("7 no TAPE", NOT, NO_TAPE, x -> x.put(0, 0));
    leaves("7 a full ROW", FULL, FULL_240, x -> x.put(0, 0));
    leaves("7 24 CHANGES", FULL, FULL_24, x -> x.put(0, 0));
    leaves("7 both full", FULL, BOTH_FULL, x -> x.put(0, 0));
    leaves("7 hand, no TAPE", BAD, NO_TAPE, x -> x.put(-1, 0));
    leaves("7 place, no TAPE", BAD, NO_TAPE, x -> x.put(0, -1));
    leaves("7 hand, a full ROW", BAD, FULL_240, x -> x.put(4, 0));
    leaves("7 place, a full ROW", BAD, FULL_240, x -> x.put(0, 241));
    leaves("7 hand, 24 CHANGES", BAD, FULL_24, x -> x.put(4, 0));
    leaves("7 place, 24 CHANGES", BAD, FULL_24, x -> x.put(0, 7));
    leaves("7 no TAPE, 24 CHANGES", NOT, FULL_24_NO_TAPE, x -> x.put(0, 0));
    leaves("7 no TAPE, a full ROW", NOT, FULL_240_NO_TAPE, x -> x.put(0, 0));
    leaves("7 hand, no TAPE, 24 CHANGES", BAD, FULL_24_NO_TAPE, x -> x.put(4, 0));
  }

  private static void marksRefused() {
    for (int kind : new int[] {STRUCK, SHAPED, REMARK}) {
      String p = (kind == STRUCK ? 8 : kind == SHAPED ? 9 : 10) + " ";
      leaves(p + "hand", BAD, MIXED, x -> mark(x, kind, 4, 0, 1));
      leaves(p + "none", BAD, MIXED, x -> mark(x, kind, 0, 1, 1));
      leaves(p + "beyond", BAD, MIXED, x -> mark(x, kind, 0, 5, 7));
      leaves(p + "24 CHANGES", FULL, FULL_24, x -> mark(x, kind, 0, 0, 1));
      leaves(p + "hand, 24 CHANGES", BAD, FULL_24, x -> mark(x, kind, 4, 0, 1));
      leaves(p + "SPAN, 24 CHANGES", BAD, FULL_24, x -> mark(x, kind, 0, 1, 1));
      leaves(p + "beyond, 24 CHANGES", BAD, FULL_24, x -> mark(x, kind, 0, 0, 7));
    }
    leaves("9 LOOK", BAD, MIXED, x -> x.shape(0, 0, 1, 8));
    leaves("9 LOOK, 24 CHANGES", BAD, FULL_24, x -> x.shape(0, 0, 1, 0));
  }

  /** In mixed(), c T d e T1 f: def behind a goes round. */
  private static void moveRefused() {
    leaves("11 hand", BAD, MIXED, x -> x.move(4, 0, 1, 2));
    leaves("11 SPAN", BAD, MIXED, x -> x.move(0, 2, 2, 0));
    leaves("11 beyond", BAD, MIXED, x -> x.move(0, 2, 7, 0));
    leaves("11 c within", BAD, MIXED, x -> x.move(0, 2, 5, 3));
    leaves("11 c beyond", BAD, MIXED, x -> x.move(0, 2, 5, 7));
    leaves("11 round", NOT, MIXED, x -> x.move(1, 3, 6, 1));
    leaves("11 24 CHANGES", FULL, FULL_24, x -> x.move(1, 3, 6, 0));
    leaves("11 a full ROW", FULL, FULL_240, x -> x.move(1, 3, 6, 0));
    leaves("11 both full", FULL, BOTH_FULL, x -> x.move(1, 3, 6, 0));
    leaves("11 round, 24 CHANGES", NOT, FULL_24, x -> x.move(1, 3, 6, 1));
    leaves("11 hand, 24 CHANGES", BAD, FULL_24, x -> x.move(-1, 3, 6, 0));
    leaves("11 SPAN, 24 CHANGES", BAD, FULL_24, x -> x.move(1, 3, 3, 0));
    leaves("11 c within, 24 CHANGES", BAD, FULL_24, x -> x.move(1, 3, 6, 4));
    leaves("11 c beyond, a full ROW", BAD, FULL_240, x -> x.move(1, 3, 6, 121));
    Supplier<Desk> roundAndFull = () -> { Desk x = settled(withLetters(239), true, 1); x.move(0, 0, 3, 5); return x; };
    leaves("11 round, a full ROW", NOT, roundAndFull, x -> x.move(1, 3, 6, 1));
    leaves("11 not round, a full ROW", FULL, roundAndFull, x -> x.move(1, 3, 6, 0));
  }

  private static void settleRefused() {
    for (boolean taken : new boolean[] {true, false}) {
      leaves("12 number", BAD, MIXED, x -> x.settle(6, taken));
      leaves("12 number 0", BAD, MIXED, x -> x.settle(0, taken));
      leaves("12 TAKEN", NOT, MIXED, x -> x.settle(2, taken));
      leaves("12 REFUSED", NOT, MIXED, x -> x.settle(4, taken));
    }
  }

  private static void cutRefused() {
    leaves("13 number", BAD, MIXED, x -> x.cut(6, 1));
    leaves("13 MOVED", CAST, MIXED, x -> x.cut(1, 1));
    leaves("13 TAKEN", NOT, MIXED, x -> x.cut(2, 1));
    leaves("13 REFUSED", NOT, MIXED, x -> x.cut(4, 1));
    leaves("13 k 0", NOT, MIXED, x -> x.cut(3, 0));
    leaves("13 k its LETTERS", NOT, MIXED, x -> x.cut(3, 2));
    leaves("13 24 CHANGES", FULL, FULL_24, x -> x.cut(3, 1));
    leaves("13 number, 24 CHANGES", BAD, FULL_24, x -> x.cut(25, 1));
    leaves("13 MOVED, 24 CHANGES", CAST, FULL_24, x -> x.cut(1, 1));
    leaves("13 MOVED, k, 24 CHANGES", CAST, FULL_24, x -> x.cut(1, 0));
    leaves("13 TAKEN, 24 CHANGES", NOT, FULL_24, x -> x.cut(2, 1));
    leaves("13 k 0, 24 CHANGES", NOT, FULL_24, x -> x.cut(3, 0));
    leaves("13 k its LETTERS, 24 CHANGES", NOT, FULL_24, x -> x.cut(3, 2));
    due("13 MOVED, settled", settled(mixed(), true, 1).cut(1, 1), CAST);
  }

  private static void lookRefused() {
    leaves("16 number", BAD, MIXED, x -> x.look(6, 1));
    leaves("16 LOOK", BAD, MIXED, x -> x.look(2, 8));
    leaves("16 of a PUT", CAST, MIXED, x -> x.look(3, 1));
    leaves("16 of a STRUCK one, settled", CAST, MIXED, x -> x.look(4, 1));
    leaves("16 TAKEN", NOT, MIXED, x -> x.look(2, 1));
    leaves("16 LOOK of a PUT", BAD, MIXED, x -> x.look(3, 0));
    leaves("16 LOOK of a settled one", BAD, MIXED, x -> x.look(4, 8));
    leaves("16 LOOK and number", BAD, MIXED, x -> x.look(0, 0));
  }

  private static void compareRefused() {
    leaves("19 hand", BAD, MIXED, x -> x.compare(4));
    leaves("19 a full ROW", FULL, FULL_240, x -> x.compare(0));
    leaves("19 24 CHANGES", FULL, FULL_24, x -> x.compare(0));
    leaves("19 both full", FULL, BOTH_FULL, x -> x.compare(0));
    leaves("19 hand, 24 CHANGES", BAD, FULL_24, x -> x.compare(4));
    leaves("19 hand, a full ROW", BAD, FULL_240, x -> x.compare(-1));
  }

  private static void cleanRefused() {
    leaves("20 MOVED is OPEN", NOT, MIXED, Desk::clean);
    leaves("20 MOVED is OPEN, 24 CHANGES", NOT, FULL_24, Desk::clean);
  }

  /** What asks and is answered leaves all as it was, too. */
  private static void askingChangesNothing() {
    leaves("4", 8, MIXED, x -> x.length(2));
    leaves("5", 'X', MIXED, x -> x.told(5, 3, 0));
    leaves("6", 2, MIXED, x -> x.place(3, 4, 0));
    leaves("14", 2, MIXED, x -> x.change(3, 4));
    leaves("15", 4, MIXED, x -> x.span(3, 5, true));
    leaves("17", 0, MIXED, x -> x.clash(1, 2));
    leaves("18", 0, MIXED, Desk::clashes);
    leaves("21", 9 - 1, MIXED, x -> x.count(0));
  }

  /** A call refused many times answers the same each time, and then the next one is as it would have been. */
  private static void refusedAgainAndAgain() {
    Desk x = mixed();
    for (int i = 0; i < 30; i++) {
      due("again", x.put(4, 0) + " " + x.move(1, 3, 6, 1) + " " + x.cut(1, 1) + " " + x.settle(2, true) + " " + x.look(3, 1) + " " + x.clean(),
          "-1 -2 -13 -2 -13 -2");
    }
    due("then", x.put(0, 0) + text(x, 3), "6" + "pqdeabcf");
  }

  // ---- the wildest numbers

  private static void wild(String what, int want, IntFunction<ToIntFunction<Desk>> call) {
    for (int n : WILD) due(what + " " + n, call.apply(n).applyAsInt(mixed()), want);
    for (int n : new int[] {LEAST, MOST}) leaves(what + " " + n, want, MIXED, call.apply(n));
  }

  private static void wildTexts() {
    wild("2 n", BAD, n -> x -> x.type(word("abcdefgh"), n));
    for (int n = 1; n <= 8; n++) {
      int k = n;
      leaves("2 least long", BAD, MIXED, x -> x.type(Long.MIN_VALUE, k));
      leaves("2 greatest long", BAD, MIXED, x -> x.type(Long.MAX_VALUE, k));
    }
    wild("4 view", BAD, n -> x -> x.length(n));
    wild("5 view", BAD, n -> x -> x.told(n, 0, 0));
    wild("5 place", BAD, n -> x -> x.told(0, n, 0));
    wild("5 what", BAD, n -> x -> x.told(0, 0, n));
    wild("6 view", BAD, n -> x -> x.place(n, 0, 0));
    wild("6 place", BAD, n -> x -> x.place(0, n, 0));
    wild("6 other", BAD, n -> x -> x.place(0, 0, n));
    wild("21 what", BAD, n -> x -> x.count(n));
  }

  private static void wildChanges() {
    wild("7 hand", BAD, n -> x -> x.put(n, 0));
    wild("7 place", BAD, n -> x -> x.put(0, n));
    wild("8 hand", BAD, n -> x -> x.strike(n, 0, 1));
    wild("8 from", BAD, n -> x -> x.strike(0, n, 6));
    wild("8 to", BAD, n -> x -> x.strike(0, 0, n));
    wild("9 hand", BAD, n -> x -> x.shape(n, 0, 1, 1));
    wild("9 from", BAD, n -> x -> x.shape(0, n, 6, 1));
    wild("9 to", BAD, n -> x -> x.shape(0, 0, n, 1));
    wild("9 LOOK", BAD, n -> x -> x.shape(0, 0, 1, n));
    wild("10 hand", BAD, n -> x -> x.remark(n, 0, 1));
    wild("10 from", BAD, n -> x -> x.remark(0, n, 6));
    wild("10 to", BAD, n -> x -> x.remark(0, 0, n));
    wild("11 hand", BAD, n -> x -> x.move(n, 0, 1, 2));
    wild("11 from", BAD, n -> x -> x.move(0, n, 6, 6));
    wild("11 to", BAD, n -> x -> x.move(0, 0, n, 0));
    wild("11 behind", BAD, n -> x -> x.move(0, 0, 1, n));
    wild("19 hand", BAD, n -> x -> x.compare(n));
  }

  private static void wildOfOneChange() {
    wild("12 number", BAD, n -> x -> x.settle(n, true));
    wild("12 number", BAD, n -> x -> x.settle(n, false));
    wild("13 number", BAD, n -> x -> x.cut(n, 1));
    wild("13 k", NOT, n -> x -> x.cut(3, n));
    wild("13 k of a MOVED one", CAST, n -> x -> x.cut(1, n));
    wild("14 number", BAD, n -> x -> x.change(n, 0));
    wild("14 what", BAD, n -> x -> x.change(1, n));
    wild("15 number", BAD, n -> x -> x.span(n, 0, true));
    wild("15 view", BAD, n -> x -> x.span(1, n, false));
    wild("16 number", BAD, n -> x -> x.look(n, 1));
    wild("16 LOOK", BAD, n -> x -> x.look(2, n));
    wild("17 first", BAD, n -> x -> x.clash(n, 1));
    wild("17 second", BAD, n -> x -> x.clash(1, n));
    wild("17 both", BAD, n -> x -> x.clash(n, n));
  }

  private static void wildTogether() {
    for (int a : WILD) {
      for (int b : WILD) {
        Desk x = mixed();
        int[] answers = {
          x.type(Long.MIN_VALUE + a, b), x.told(a, b, a), x.place(a, b, b), x.put(a, b), x.strike(a, b, a), x.shape(0, a, b, 1),
          x.remark(3, a, b), x.move(2, a, b, a), x.move(0, a, b, b), x.cut(a, b), x.change(a, b), x.span(a, b, true), x.look(a, b),
          x.clash(a, b),
        };
        for (int i = 0; i < answers.length; i++) due("wild call " + i + " of " + a + " and " + b, answers[i], BAD);
      }
    }
  }
}
