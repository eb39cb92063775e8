/** The document's calls, so that RedlineDesk and SlowDesk can be asked alike. */
interface Calls {
  int type(long w, int n);
  int begin();
  int length(int view);
  int told(int view, int place, int what);
  int place(int view, int place, int other);
  int put(int hand, int a);
  int strike(int hand, int a, int b);
  int shape(int hand, int a, int b, int look);
  int remark(int hand, int a, int b);
  int move(int hand, int a, int b, int c);
  int settle(int change, boolean taken);
  int cut(int change, int k);
  int change(int change, int what);
  int span(int change, int view, boolean last);
  int look(int change, int look);
  int clash(int a, int b);
  int clashes();
  int compare(int hand);
  int clean();
  int count(int what);
}
