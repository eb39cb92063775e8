import java.util.Random;

/** Long mixed runs, at most 512 calls an object, each answer held against SlowDesk's. */
public final class AgainstSlowTest {
  private static final int RUNS = 3000;
  private static final int CALLS = 512;

  private final Random random;
  private final RedlineDesk fast = new RedlineDesk();
  private final SlowDesk slow = new SlowDesk();
  private final StringBuilder told = new StringBuilder();
  private final int alphabet, boldness, calm;
  private int calls = 0;

  private AgainstSlowTest(int run) {
    random = new Random(run);
    alphabet = new int[] {2, 4, 95}[run % 3];
    boldness = new int[] {2, 8, 40}[run / 3 % 3];
    calm = new int[] {20, 60}[run / 9 % 2];
  }

  public static void main(String[] args) {
    int wrong = 0;
    for (int run = 0; run < RUNS && wrong < 5; run++) {
      AgainstSlowTest test = new AgainstSlowTest(run);
      while (test.calls < CALLS) {
        if (!test.oneCall()) {
          System.out.println("run " + run + test.told);
          wrong++;
          break;
        }
      }
    }
    System.out.println(wrong == 0 ? "AgainstSlowTest: all answers are as due" : "AgainstSlowTest: answers differ");
    if (wrong != 0) System.exit(1);
  }

  private int upTo(int most) { return random.nextInt(most + 1); }

  /** Mostly a number within, now and then one beside it or far off. */
  private int about(int least, int most) {
    int turn = random.nextInt(calm);
    if (turn == 0) return least - 1;
    if (turn == 1) return most + 1;
    if (turn == 2 && random.nextInt(4) == 0) return random.nextBoolean() ? Integer.MIN_VALUE : Integer.MAX_VALUE;
    return most < least ? least : least + random.nextInt(most - least + 1);
  }

  private int shown(int view) { return view >= 0 && view <= 6 ? slow.shown(view).size() : 3; }

  private int edit() { return about(1, slow.edits.size()); }

  private boolean same(String call, int got, int due) {
    calls++;
    told.append("\n  ").append(call).append(" answered ").append(got);
    if (got != due) told.append(", due is ").append(due);
    return got == due;
  }

  private boolean oneCall() {
    int turn = random.nextInt(100);
    if (turn < 14) return type();
    if (turn < 15) return random.nextInt(slow.edits.size() < 24 ? 4 : 1) > 0 || same("begin()", fast.begin(), slow.begin());
    if (turn < 20) return put();
    if (turn < 40) return marks();
    if (turn < 50) return settled();
    if (turn < 53) return same("clean()", fast.clean(), slow.clean());
    if (turn < 57) return compare();
    return asked();
  }

  private boolean type() {
    int n = Math.min(about(1, 8), about(1, 8));
    if (random.nextInt(boldness) == 0) n = about(1, 8);
    long w = random.nextLong();
    int bytes = random.nextInt(calm) == 0 ? 0 : 8;
    for (int i = 0; i < bytes; i++) {
      w = w & ~(255L << 8 * i) | (long) (32 + random.nextInt(alphabet)) << 8 * i;
    }
    return same("type(" + w + ", " + n + ")", fast.type(w, n), slow.type(w, n));
  }

  private boolean put() {
    int h = about(0, 3), a = about(0, shown(3 + Math.max(-3, Math.min(h, 3))));
    return same("put(" + h + ", " + a + ")", fast.put(h, a), slow.put(h, a));
  }

  private boolean marks() {
    int h = about(0, 3);
    int places = h < 0 || h > 3 ? 4 : shown(3 + h);
    int a = about(0, Math.max(places - 1, 0));
    int b = a < places ? about(a + 1, Math.min(places, (int) Math.min((long) a + boldness, 300))) : a + 1;
    String span = h + ", " + a + ", " + b;
    switch (random.nextInt(5)) {
      case 0: return same("strike(" + span + ")", fast.strike(h, a, b), slow.strike(h, a, b));
      case 1: return same("remark(" + span + ")", fast.remark(h, a, b), slow.remark(h, a, b));
      case 2: {
        int look = about(1, 7);
        return same("shape(" + span + ", " + look + ")", fast.shape(h, a, b, look), slow.shape(h, a, b, look));
      }
      default: {
        int c = about(0, places);
        return same("move(" + span + ", " + c + ")", fast.move(h, a, b, c), slow.move(h, a, b, c));
      }
    }
  }

  private boolean settled() {
    int n = edit();
    switch (random.nextInt(3)) {
      case 0: {
        boolean taken = random.nextBoolean();
        return same("settle(" + n + ", " + taken + ")", fast.settle(n, taken), slow.settle(n, taken));
      }
      case 1: {
        int k = about(1, Math.max(1, n >= 1 && n <= 24 ? slow.letters(n).size() - 1 : 1));
        return same("cut(" + n + ", " + k + ")", fast.cut(n, k), slow.cut(n, k));
      }
      default: {
        int look = about(1, 7);
        return same("look(" + n + ", " + look + ")", fast.look(n, look), slow.look(n, look));
      }
    }
  }

  /** Often with a tape that is close to NOW, so that much is kept. */
  private boolean compare() {
    boolean close = random.nextInt(3) > 0;
    for (SlowDesk.Piece p : close ? slow.shown(1) : new java.util.ArrayList<SlowDesk.Piece>()) {
      if (calls > CALLS - 2) break;
      long w = random.nextInt(8) == 0 ? 32 + random.nextInt(alphabet) : p.sign;
      int n = random.nextInt(8) == 0 ? 2 : 1;
      if (random.nextInt(8) > 0 && !same("type(" + w + ", " + n + ")", fast.type(w, n), slow.type(w, n))) return false;
    }
    int h = about(0, 3);
    return same("compare(" + h + ")", fast.compare(h), slow.compare(h));
  }

  private boolean asked() {
    int v = about(0, 6), p = about(0, Math.max(0, shown(v) - 1)), n = edit();
    switch (random.nextInt(8)) {
      case 0: return same("length(" + v + ")", fast.length(v), slow.length(v));
      case 1: {
        int other = about(0, 6);
        return same("place(" + v + ", " + p + ", " + other + ")", fast.place(v, p, other), slow.place(v, p, other));
      }
      case 2: {
        int what = about(0, 4);
        return same("change(" + n + ", " + what + ")", fast.change(n, what), slow.change(n, what));
      }
      case 3: {
        boolean last = random.nextBoolean();
        return same("span(" + n + ", " + v + ", " + last + ")", fast.span(n, v, last), slow.span(n, v, last));
      }
      case 4: {
        if (random.nextBoolean()) return same("clashes()", fast.clashes(), slow.clashes());
        int other = about(Math.max(1, n - 3), Math.min(slow.edits.size(), Math.max(n, 0) + 3));
        return same("clash(" + n + ", " + other + ")", fast.clash(n, other), slow.clash(n, other));
      }
      case 5: {
        int what = about(0, 6);
        return same("count(" + what + ")", fast.count(what), slow.count(what));
      }
      default: {
        int what = about(0, 7);
        return same("told(" + v + ", " + p + ", " + what + ")", fast.told(v, p, what), slow.told(v, p, what));
      }
    }
  }
}
