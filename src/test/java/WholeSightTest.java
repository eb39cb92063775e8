import java.util.ArrayList;
import java.util.List;
import java.util.Random;
import java.util.concurrent.atomic.AtomicInteger;
import java.util.stream.IntStream;

/**
 * Long runs of changing calls on short texts, so that CHANGES, TOKENS and cleanings meet often; all that can be asked behind
 * them is held against SlowDesk. A number as argument: so many runs, from there on (for a longer search by hand).
 */
public final class WholeSightTest {
  private static final int RUNS = 4000;
  private static final int MOST_MADE = 90;

  /** How often of a hundred: type and put, marks, move, settle, cut, look, clean, compare. */
  private static final int[][] TURNS = {
    {20, 20, 20, 20, 6, 4, 6, 4},
    {10, 5, 50, 20, 0, 0, 10, 5},
    {15, 30, 0, 20, 15, 10, 8, 2},
    {10, 15, 15, 35, 5, 0, 15, 5},
    {25, 10, 10, 25, 5, 0, 10, 15},
    {10, 25, 40, 5, 15, 5, 0, 0},
  };

  private final Random random;
  private final int[] turns;
  private final SlowDesk slow = new SlowDesk();
  private final List<Told> run = new ArrayList<>();

  private WholeSightTest(int seed) {
    random = new Random(seed);
    turns = TURNS[seed % TURNS.length];
  }

  public static void main(String[] args) {
    int runs = args.length > 0 ? Integer.parseInt(args[0]) : RUNS, from = args.length > 0 ? RUNS : 0;
    AtomicInteger wrong = new AtomicInteger();
    IntStream.range(from, from + runs).parallel().forEach(seed -> {
      String difference = Told.difference(new WholeSightTest(seed).made());
      if (difference != null && wrong.incrementAndGet() <= 3) System.out.println("run " + seed + ": " + difference);
    });
    System.out.println("WholeSightTest: " + runs + " runs, " + wrong + " wrong");
    if (wrong.get() != 0) System.exit(1);
  }

  private List<Told> made() {
    call("type", Checks.word("abcdefgh"), 1 + random.nextInt(8));
    call("begin");
    int calls = 1 + random.nextInt(MOST_MADE);
    while (run.size() < calls) next();
    return run;
  }

  private void call(String name, long... by) {
    Told told = new Told(name, by);
    run.add(told);
    told.of(slow);
  }

  /** From least to most; seldom one beside it. */
  private int about(int least, int most) {
    int turn = random.nextInt(60);
    return turn == 0 ? least - 1 : turn == 1 || most < least ? most + 1 : least + random.nextInt(most - least + 1);
  }

  private void next() {
    int turn = random.nextInt(100), kind = 0;
    while (kind < turns.length - 1 && turn >= turns[kind]) turn -= turns[kind++];
    int hand = random.nextInt(4), places = slow.length(3 + hand), n = about(1, slow.count(2));
    switch (kind) {
      case 0: typed(1 + random.nextInt(3)); call("put", hand, about(0, places)); break;
      case 1: mark(hand, places); break;
      case 2: move(hand, places); break;
      case 3: call("settle", n, random.nextInt(3) > 0 ? 1 : 0); break;
      case 4: call("cut", n, about(1, Math.max(1, slow.change(n, 4) - 1))); break;
      case 5: call("look", n, about(1, 7)); break;
      case 6: clean(); break;
      default: compare(hand);
    }
  }

  private void typed(int n) {
    long w = 0;
    for (int i = 0; i < n; i++) w = w << 8 | 'a' + random.nextInt(10);
    call("type", w, n);
  }

  private void mark(int hand, int places) {
    int a = about(0, places - 1), b = about(a + 1, places), kind = random.nextInt(3);
    if (kind == 0) call("strike", hand, a, b);
    else if (kind == 1) call("remark", hand, a, b);
    else call("shape", hand, a, b, about(1, 7));
  }

  private void move(int hand, int places) {
    int a = about(0, places - 1), b = about(a + 1, places);
    int c = random.nextInt(20) == 0 ? about(a, b) : random.nextBoolean() ? about(0, a) : about(b, places);
    call("move", hand, a, b, c);
  }

  /** Often with all OPEN MOVED ones settled ahead of it, as it is refused else. */
  private void clean() {
    for (int n = 1; n <= slow.count(2) && random.nextInt(4) > 0; n++) {
      if (slow.change(n, 0) == 2 && slow.change(n, 2) == 0) call("settle", n, random.nextInt(4) > 0 ? 1 : 0);
    }
    call("clean");
  }

  /** With NOW, but for some bytes. */
  private void compare(int hand) {
    for (int p = 0; p < slow.length(1); p++) {
      if (random.nextInt(6) == 0) typed(1);
      if (random.nextInt(6) > 0) call("type", slow.told(1, p, 0), 1);
    }
    call("compare", hand);
  }
}
