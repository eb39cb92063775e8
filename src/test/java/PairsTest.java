import java.util.ArrayList;
import java.util.List;
import java.util.concurrent.atomic.AtomicInteger;
import java.util.stream.IntStream;

/**
 * Every CHANGE that can be made on a short text, then every other one by the same or another hand, each left OPEN, TAKEN or
 * REFUSED; then also cleaned, compared, cut. All that can be asked then is held against SlowDesk.
 */
public final class PairsTest {
  private static final String FIRST = "abc";
  private static final int[] STATES = {0, 1, 2};

  private static final AtomicInteger runs = new AtomicInteger(), wrong = new AtomicInteger();

  public static void main(String[] args) {
    List<List<Told>> first = made(0, FIRST.length());
    IntStream.range(0, first.size()).parallel().forEach(i -> pairs(i, first.get(i)));
    System.out.println("PairsTest: " + runs + " runs, " + wrong + " wrong");
    if (wrong.get() != 0) System.exit(1);
  }

  private static Told typed(String text) { return new Told("type", Checks.word(text), text.length()); }

  /** Each CHANGE that a hand can make in a VIEW of so many LETTERS. */
  private static List<List<Told>> made(int hand, int places) {
    List<List<Told>> out = new ArrayList<>();
    for (int a = 0; a <= places; a++) {
      out.add(List.of(typed(hand == 0 ? "XY" : "Z"), new Told("put", hand, a)));
      for (int b = a + 1; b <= places; b++) {
        out.add(List.of(new Told("strike", hand, a, b)));
        out.add(List.of(new Told("shape", hand, a, b, 4 + hand)));
        out.add(List.of(new Told("remark", hand, a, b)));
        for (int c = 0; c <= places; c++) if (c <= a || c >= b) out.add(List.of(new Told("move", hand, a, b, c)));
      }
    }
    return out;
  }

  private static void pairs(int number, List<Told> first) {
    int turn = number;
    for (int state : STATES) {
      List<Told> one = begun();
      one.addAll(first);
      if (state != 0) one.add(new Told("settle", 1, state % 2));
      for (int hand = 0; hand < 2; hand++) {
        SlowDesk slow = new SlowDesk();
        for (Told t : one) t.of(slow);
        for (List<Told> second : made(hand, slow.length(3 + hand))) {
          for (int other : STATES) {
            List<Told> two = new ArrayList<>(one);
            two.addAll(second);
            if (other != 0) two.add(new Told("settle", 2, other % 2));
            held(two, turn++);
          }
        }
      }
    }
  }

  private static List<Told> begun() {
    return new ArrayList<>(List.of(typed(FIRST), new Told("begin")));
  }

  /** The pair as it is, and behind one of these, by turns. */
  private static void held(List<Told> pair, int turn) {
    same(pair);
    List<Told> more = new ArrayList<>(pair);
    switch (turn % 4) {
      case 0:
        more.add(new Told("clean"));
        break;
      case 1:
        more.add(typed("bXc!a"));
        more.add(new Told("compare", turn / 4 % 3));
        break;
      case 2:
        more.add(new Told("cut", 1 + turn / 4 % 2, 1));
        more.add(new Told("settle", 1 + turn / 8 % 3, turn / 4 % 2));
        more.add(new Told("clean"));
        break;
      default:
        more.add(new Told("settle", 1, turn / 4 % 2));
        more.add(new Told("settle", 2, turn / 8 % 2));
        more.add(new Told("clean"));
        more.add(typed("cab"));
        more.add(new Told("compare", 1));
    }
    same(more);
  }

  private static void same(List<Told> run) {
    runs.incrementAndGet();
    String difference = Told.difference(run);
    if (difference != null && wrong.incrementAndGet() <= 5) System.out.println(difference);
  }
}
