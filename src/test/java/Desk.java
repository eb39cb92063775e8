/** A RedlineDesk for the tests: it takes no call beyond those that the document answers for. */
final class Desk implements Calls {
  static final int MOST_CALLS = 512;

  private final RedlineDesk desk = new RedlineDesk();
  private int calls = 0;

  private RedlineDesk next() {
    calls++;
    if (calls > MOST_CALLS) throw new IllegalStateException("a test calls one object more than " + MOST_CALLS + " times");
    return desk;
  }

  int calls() { return calls; }

  public int type(long w, int n) { return next().type(w, n); }
  public int begin() { return next().begin(); }
  public int length(int view) { return next().length(view); }
  public int told(int view, int place, int what) { return next().told(view, place, what); }
  public int place(int view, int place, int other) { return next().place(view, place, other); }
  public int put(int hand, int a) { return next().put(hand, a); }
  public int strike(int hand, int a, int b) { return next().strike(hand, a, b); }
  public int shape(int hand, int a, int b, int look) { return next().shape(hand, a, b, look); }
  public int remark(int hand, int a, int b) { return next().remark(hand, a, b); }
  public int move(int hand, int a, int b, int c) { return next().move(hand, a, b, c); }
  public int settle(int change, boolean taken) { return next().settle(change, taken); }
  public int cut(int change, int k) { return next().cut(change, k); }
  public int change(int change, int what) { return next().change(change, what); }
  public int span(int change, int view, boolean last) { return next().span(change, view, last); }
  public int look(int change, int look) { return next().look(change, look); }
  public int clash(int a, int b) { return next().clash(a, b); }
  public int clashes() { return next().clashes(); }
  public int compare(int hand) { return next().compare(hand); }
  public int clean() { return next().clean(); }
  public int count(int what) { return next().count(what); }
}
