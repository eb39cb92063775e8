import java.util.IdentityHashMap;
import java.util.Map;
import java.util.function.Supplier;
import java.util.function.ToIntFunction;

/** What the tests share: how an answer is asked for, how a desk is made ready, and all that can be seen of it. */
abstract class Checks {
  static final int BAD = -1, NOT = -2, FULL = -3, CAST = -13;
  static final int LEAST = Integer.MIN_VALUE, MOST = Integer.MAX_VALUE;
  static final int PUT = 0, STRUCK = 1, MOVED = 2, SHAPED = 3, REMARK = 4;
  static final int FIRST = 0, NOW = 1, ALL = 2, OF_0 = 3, OF_1 = 4, OF_2 = 5, OF_3 = 6;

  private static final Map<Supplier<Desk>, String> SEEN = new IdentityHashMap<>();
  private static int wrong = 0, asked = 0;

  static void due(String what, Object got, Object want) {
    asked++;
    if (!got.equals(want)) { wrong++; System.out.println(what + " answered " + got + ", due is " + want); }
  }

  static void end(String test) {
    System.out.println(test + ": " + asked + " asked, " + wrong + " wrong");
    if (wrong != 0) System.exit(1);
  }

  // ---- desks made ready

  /** As few calls as can be: eight bytes a call. */
  static Desk typed(Desk x, String text) {
    for (int from = 0; from < text.length(); from += 8) {
      int n = Math.min(8, text.length() - from);
      x.type(word(text.substring(from, from + n)), n);
    }
    return x;
  }

  static long word(String bytes) {
    long w = 0;
    for (int i = 0; i < bytes.length(); i++) w = w << 8 | bytes.charAt(i);
    return w;
  }

  static Desk desk(String first) {
    Desk x = typed(new Desk(), first);
    x.begin();
    return x;
  }

  static int put(Desk x, int hand, int a, String text) { return typed(x, text).put(hand, a); }

  static int mark(Desk x, int kind, int hand, int a, int b) {
    return kind == STRUCK ? x.strike(hand, a, b) : kind == SHAPED ? x.shape(hand, a, b, 1) : x.remark(hand, a, b);
  }

  /** Remarks on the first LETTER, by hand 0, up to so many CHANGES. */
  static Desk withChanges(Desk x, int changes) {
    for (int n = x.count(2); n < changes; n++) x.remark(0, 0, 1);
    return x;
  }

  static Desk fullOfChanges(String first) { return withChanges(desk(first), 24); }

  /** So many LETTERS, all but 120 of them in 1, a PUT of hand 0 at the beginning: a .. behind b .. */
  static Desk withLetters(int letters) {
    Desk x = desk(repeated("a", 120));
    put(x, 0, 0, repeated("b", letters - 120));
    return x;
  }

  static Desk oneLeft() { return withLetters(239); }

  static Desk fullRow() { return withLetters(240); }

  static Desk settled(Desk x, boolean taken, int... changes) {
    for (int n : changes) x.settle(n, taken);
    return x;
  }

  // ---- what can be seen

  static String repeated(String s, int n) { return s.repeat(n); }

  static String text(Desk x, int view) {
    StringBuilder out = new StringBuilder();
    int length = x.length(view);
    for (int p = 0; p < length; p++) out.append((char) x.told(view, p, 0));
    return out.toString();
  }

  /** What is told of every LETTER of a VIEW, a sign each. */
  static String told(Desk x, int view, int what) {
    StringBuilder out = new StringBuilder();
    int length = x.length(view);
    for (int p = 0; p < length; p++) out.append(Character.forDigit(x.told(view, p, what), 36));
    return out.toString();
  }

  /** NOW, with this CHANGE TAKEN. */
  static String settledText(Desk x, int n) {
    x.settle(n, true);
    return text(x, NOW);
  }

  static String lengths(Desk x) {
    StringBuilder out = new StringBuilder();
    for (int v = 0; v < 7; v++) out.append(v == 0 ? "" : " ").append(x.length(v));
    return out.toString();
  }

  static String counts(Desk x) {
    StringBuilder out = new StringBuilder();
    for (int what = 0; what < 7; what++) out.append(what == 0 ? "" : " ").append(x.count(what));
    return out.toString();
  }

  /** KIND, HAND, state, LOOK and LETTERS of a CHANGE. */
  static String change(Desk x, int n) {
    StringBuilder out = new StringBuilder();
    for (int what = 0; what < 5; what++) out.append(what == 0 ? "" : " ").append(x.change(n, what));
    return out.toString();
  }

  static String changes(Desk x) {
    StringBuilder out = new StringBuilder();
    int most = x.count(2);
    for (int n = 1; n <= most; n++) out.append(change(x, n)).append('/');
    return out.toString();
  }

  private static String clashing(Desk x) {
    StringBuilder out = new StringBuilder();
    int most = x.count(2);
    for (int a = 1; a <= most; a++) for (int b = a + 1; b <= most; b++) out.append(x.clash(a, b));
    return out.toString();
  }

  private static String tape(Desk x) {
    x.begin();
    return text(x, FIRST);
  }

  private static String settledAlike(Desk x, boolean taken) {
    int most = x.count(2);
    for (int n = 1; n <= most; n++) x.settle(n, taken);
    return text(x, NOW);
  }

  /**
   * All that can be seen of a desk that is made by this recipe, of THE TAPE and of what no VIEW shows yet, too. Each look is
   * one at a new desk, so that none has too many calls.
   */
  static String seen(Supplier<Desk> recipe) {
    StringBuilder out = new StringBuilder();
    for (int v = 0; v < 7; v++) {
      out.append('|').append(text(recipe.get(), v));
      for (int what = 1; what < 8; what++) out.append(',').append(told(recipe.get(), v, what));
    }
    out.append('|').append(counts(recipe.get())).append('|').append(changes(recipe.get()));
    out.append('|').append(clashing(recipe.get())).append('|').append(tape(recipe.get()));
    out.append('|').append(settledAlike(recipe.get(), true)).append('|').append(settledAlike(recipe.get(), false));
    return out.toString();
  }

  static Supplier<Desk> then(Supplier<Desk> recipe, ToIntFunction<Desk> call) {
    return () -> {
      Desk x = recipe.get();
      call.applyAsInt(x);
      return x;
    };
  }

  /** The call answers so, and changes nothing. */
  static void leaves(String what, int want, Supplier<Desk> recipe, ToIntFunction<Desk> call) {
    due(what, call.applyAsInt(recipe.get()), want);
    String before = SEEN.computeIfAbsent(recipe, Checks::seen);
    due(what + ": what is seen then", seen(then(recipe, call)), before);
  }
}
