import java.util.ArrayList;
import java.util.List;

/** One call by its name and its numbers, so that it can be made again, on another desk, and printed. */
record Told(String name, long... by) {
  int of(Calls x) {
    int a = number(0), b = number(1), c = number(2), d = number(3);
    switch (name) {
      case "type": return x.type(by[0], b);
      case "begin": return x.begin();
      case "length": return x.length(a);
      case "told": return x.told(a, b, c);
      case "place": return x.place(a, b, c);
      case "put": return x.put(a, b);
      case "strike": return x.strike(a, b, c);
      case "shape": return x.shape(a, b, c, d);
      case "remark": return x.remark(a, b, c);
      case "move": return x.move(a, b, c, d);
      case "settle": return x.settle(a, b != 0);
      case "cut": return x.cut(a, b);
      case "change": return x.change(a, b);
      case "span": return x.span(a, b, c != 0);
      case "look": return x.look(a, b);
      case "clash": return x.clash(a, b);
      case "clashes": return x.clashes();
      case "compare": return x.compare(a);
      case "clean": return x.clean();
      case "count": return x.count(a);
      default: throw new IllegalStateException(name);
    }
  }

  private int number(int i) { return i < by.length ? (int) by[i] : 0; }

  @Override public String toString() {
    StringBuilder out = new StringBuilder(name).append('(');
    for (int i = 0; i < by.length; i++) out.append(i == 0 ? "" : ", ").append(by[i]);
    return out.append(')').toString();
  }

  /** All that can be asked of a desk that is as this one: each place and number, and the first one beyond. */
  static List<Told> questions(SlowDesk slow) {
    List<Told> out = new ArrayList<>();
    out.add(new Told("clashes"));
    for (int what = -1; what <= 7; what++) out.add(new Told("count", what));
    for (int v = -1; v <= 7; v++) {
      out.add(new Told("length", v));
      int places = Math.max(0, slow.length(v));
      for (int p = 0; p <= places; p++) {
        for (int what = 0; what <= 7; what++) out.add(new Told("told", v, p, what));
        for (int other = 0; other <= 6; other++) out.add(new Told("place", v, p, other));
      }
    }
    int most = slow.count(2) + 1;
    for (int n = 0; n <= most; n++) {
      for (int what = 0; what <= 5; what++) out.add(new Told("change", n, what));
      for (int v = 0; v <= 6; v++) {
        out.add(new Told("span", n, v, 0));
        out.add(new Told("span", n, v, 1));
      }
      for (int other = 0; other <= most; other++) out.add(new Told("clash", n, other));
    }
    return out;
  }

  /**
   * Makes this run on a desk and on a SlowDesk, then asks all that can be asked, on as many new desks made by the same run as
   * are needed to keep within 512 calls. The first call that is answered otherwise, or null.
   */
  static String difference(List<Told> run) {
    SlowDesk slow = new SlowDesk();
    int[] due = new int[run.size()];
    for (int i = 0; i < due.length; i++) due[i] = run.get(i).of(slow);
    Desk desk = null;
    for (Told question : questions(slow)) {
      if (desk == null || desk.calls() == Desk.MOST_CALLS) {
        desk = new Desk();
        for (int i = 0; i < due.length; i++) {
          int got = run.get(i).of(desk);
          if (got != due[i]) return run.subList(0, i + 1) + " answered " + got + ", due is " + due[i];
        }
      }
      int want = question.of(slow), got = question.of(desk);
      if (got != want) return run + ", then " + question + " answered " + got + ", due is " + want;
    }
    return null;
  }
}
