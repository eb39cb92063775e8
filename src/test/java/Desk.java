/** A RedlineDesk for the tests: it takes no call beyond those that the document answers for. */
final class Desk {
  static final int MOST_CALLS = 512;

  private final RedlineDesk desk = new RedlineDesk();
  private int calls = 0;

  private RedlineDesk next() {
    calls++;
    if (calls > MOST_CALLS) throw new IllegalStateException("a test calls one object more than " + MOST_CALLS + " times");
    return desk;
  }

  int calls() { return calls; }

  int type(long w, int n) { return next().type(w, n); }
  int begin() { return next().begin(); }
  int length(int view) { return next().length(view); }
  int told(int view, int place, int what) { return next().told(view, place, what); }
  int place(int view, int place, int other) { return next().place(view, place, other); }
  int put(int hand, int a) { return next().put(hand, a); }
  int strike(int hand, int a, int b) { return next().strike(hand, a, b); }
  int shape(int hand, int a, int b, int look) { return next().shape(hand, a, b, look); }
  int remark(int hand, int a, int b) { return next().remark(hand, a, b); }
  int move(int hand, int a, int b, int c) { return next().move(hand, a, b, c); }
  int settle(int change, boolean taken) { return next().settle(change, taken); }
  int cut(int change, int k) { return next().cut(change, k); }
  int change(int change, int what) { return next().change(change, what); }
  int span(int change, int view, boolean last) { return next().span(change, view, last); }
  int look(int change, int look) { return next().look(change, look); }
  int clash(int a, int b) { return next().clash(a, b); }
  int clashes() { return next().clashes(); }
  int compare(int hand) { return next().compare(hand); }
  int clean() { return next().clean(); }
  int count(int what) { return next().count(what); }
}
