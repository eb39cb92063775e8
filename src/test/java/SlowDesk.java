import java.util.ArrayList;
import java.util.HashMap;
import java.util.List;
import java.util.Map;
import java.util.TreeSet;

/** The document told a second time, as plainly as can be and with the Java library, to hold RedlineDesk against. */
final class SlowDesk implements Calls {
  static final class Edit {
    final int number, kind, hand;
    int state, look;
    Edit(int number, int kind, int hand, int look) {
      this.number = number; this.kind = kind; this.hand = hand; this.look = look;
    }
  }

  static final class Piece {
    char sign;
    Edit token;
    final TreeSet<Integer> edits = new TreeSet<>();
    int own, wornUpTo;
  }

  List<Piece> row = new ArrayList<>();
  final List<Edit> edits = new ArrayList<>();
  String tape = "";

  // ---- what counts, what is shown

  Edit edit(int n) { return n >= 1 && n <= edits.size() ? edits.get(n - 1) : null; }

  boolean counts(Edit e, int view) {
    if (view == 0) return false;
    if (e.state == 1) return true;
    if (e.state == 2) return false;
    return view == 2 || view - 3 == e.hand;
  }

  boolean there(Piece p, int view) {
    for (int n : p.edits) {
      Edit e = edit(n);
      if (e.kind == 0 && !counts(e, view)) return false;
      if (e.kind == 1 && counts(e, view)) return false;
    }
    return true;
  }

  int home(Piece p, int view) {
    int home = 0;
    for (int n : p.edits) if (edit(n).kind == 2 && counts(edit(n), view)) home = n;
    return home;
  }

  void unfold(int home, int view, boolean allThere, List<Piece> out) {
    for (Piece p : row) {
      if (home(p, view) != home) continue;
      if (p.token == null) { if (allThere || there(p, view)) out.add(p); }
      else if (counts(p.token, view)) unfold(p.token.number, view, allThere, out);
    }
  }

  List<Piece> shown(int view) {
    List<Piece> out = new ArrayList<>();
    unfold(0, view, false, out);
    return out;
  }

  int look(Piece p, int view) {
    int look = p.own;
    for (int n : p.edits) if (edit(n).kind == 3 && n > p.wornUpTo && counts(edit(n), view)) look = edit(n).look;
    return look;
  }

  int ofKind(Piece p, int kind) {
    int found = 0;
    for (int n : p.edits) if (edit(n).kind == kind) found++;
    return found;
  }

  List<Piece> letters(int n) {
    List<Piece> out = new ArrayList<>();
    for (Piece p : row) if (p.token == null && p.edits.contains(n)) out.add(p);
    return out;
  }

  static boolean view(int v) { return v >= 0 && v <= 6; }
  static boolean hand(int h) { return h >= 0 && h <= 3; }

  // ---- 1 texts

  public int type(long w, int n) {
    if (n < 1 || n > 8) return -1;
    StringBuilder s = new StringBuilder();
    for (int i = n - 1; i >= 0; i--) {
      long b = (w >> (8 * i)) & 0xff;
      if (b < 32 || b > 126) return -1;
      s.append((char) b);
    }
    if (tape.length() + n > 120) return -3;
    tape += s;
    return tape.length();
  }

  public int begin() {
    row.clear();
    edits.clear();
    for (char c : tape.toCharArray()) { Piece p = new Piece(); p.sign = c; row.add(p); }
    tape = "";
    return row.size();
  }

  public int length(int v) { return view(v) ? shown(v).size() : -1; }

  public int told(int v, int place, int what) {
    if (!view(v) || what < 0 || what > 7) return -1;
    List<Piece> s = shown(v);
    if (place < 0 || place >= s.size()) return -1;
    Piece p = s.get(place);
    if (what == 0) return p.sign;
    if (what == 1) return look(p, v);
    if (what == 2) { for (int n : p.edits) if (edit(n).kind == 0) return n; return 0; }
    if (what == 3) return home(p, v);
    return ofKind(p, what - 3);
  }

  public int place(int v, int place, int other) {
    if (!view(v) || !view(other)) return -1;
    List<Piece> s = shown(v);
    if (place < 0 || place >= s.size()) return -1;
    int at = shown(other).indexOf(s.get(place));
    return at < 0 ? -2 : at;
  }

  // ---- 2 changes

  Edit make(int kind, int hand, int look) {
    Edit e = new Edit(edits.size() + 1, kind, hand, look);
    edits.add(e);
    return e;
  }

  TreeSet<Integer> moves(Piece p) {
    TreeSet<Integer> out = new TreeSet<>();
    if (p != null) for (int n : p.edits) if (edit(n).kind == 2) out.add(n);
    return out;
  }

  void putBehind(Piece ahead, Edit e, String text) {
    int at = ahead == null ? 0 : row.indexOf(ahead) + 1;
    for (char c : text.toCharArray()) {
      Piece p = new Piece();
      p.sign = c;
      p.edits.addAll(moves(ahead));
      p.edits.add(e.number);
      row.add(at++, p);
    }
  }

  public int put(int h, int a) {
    if (!hand(h)) return -1;
    List<Piece> s = shown(3 + h);
    if (a < 0 || a > s.size()) return -1;
    if (tape.isEmpty()) return -2;
    if (row.size() + tape.length() > 240 || edits.size() == 24) return -3;
    Edit e = make(0, h, 0);
    putBehind(a == 0 ? null : s.get(a - 1), e, tape);
    tape = "";
    return e.number;
  }

  int mark(int kind, int h, int a, int b, int look) {
    if (!hand(h)) return -1;
    List<Piece> s = shown(3 + h);
    if (a < 0 || b <= a || b > s.size()) return -1;
    if (edits.size() == 24) return -3;
    Edit e = make(kind, h, look);
    for (Piece p : s.subList(a, b)) p.edits.add(e.number);
    return e.number;
  }

  public int strike(int h, int a, int b) { return mark(1, h, a, b, 0); }
  public int shape(int h, int a, int b, int look) { return look < 1 || look > 7 ? -1 : mark(3, h, a, b, look); }
  public int remark(int h, int a, int b) { return mark(4, h, a, b, 0); }

  /** Whether, by these outer sets (of the TOKEN of each one), some one is within itself. */
  static boolean round(Map<Integer, TreeSet<Integer>> outer) {
    for (int start : outer.keySet()) {
      TreeSet<Integer> seen = new TreeSet<>();
      List<Integer> todo = new ArrayList<>(outer.get(start));
      while (!todo.isEmpty()) {
        int n = todo.remove(todo.size() - 1);
        if (n == start) return true;
        if (seen.add(n) && outer.containsKey(n)) todo.addAll(outer.get(n));
      }
    }
    return false;
  }

  public int move(int h, int a, int b, int c) {
    if (!hand(h)) return -1;
    List<Piece> s = shown(3 + h);
    if (a < 0 || b <= a || b > s.size() || c < 0 || c > s.size() || (a < c && c < b)) return -1;
    List<Piece> span = s.subList(a, b);
    int first = Integer.MAX_VALUE, last = -1;
    TreeSet<Integer> homes = new TreeSet<>();
    for (Piece p : span) {
      first = Math.min(first, row.indexOf(p));
      last = Math.max(last, row.indexOf(p));
      homes.add(home(p, 3 + h));
    }
    List<Piece> along = new ArrayList<>();
    for (int i = first; i <= last; i++) {
      if (row.get(i).token != null && homes.contains(home(row.get(i), 3 + h))) along.add(row.get(i));
    }
    Piece ahead = c == 0 ? null : s.get(c - 1);
    int next = edits.size() + 1;
    Map<Integer, TreeSet<Integer>> outer = new HashMap<>();
    for (Piece p : row) if (p.token != null) outer.put(p.token.number, moves(p));
    for (Piece p : along) outer.get(p.token.number).add(next);
    outer.put(next, moves(ahead));
    if (round(outer)) return -2;
    if (row.size() == 240 || edits.size() == 24) return -3;
    Piece token = new Piece();
    token.edits.addAll(moves(ahead));
    Edit e = make(2, h, 0);
    token.token = e;
    for (Piece p : span) p.edits.add(e.number);
    for (Piece p : along) p.edits.add(e.number);
    row.add(ahead == null ? 0 : row.indexOf(ahead) + 1, token);
    return e.number;
  }

  public int settle(int n, boolean taken) {
    Edit e = edit(n);
    if (e == null) return -1;
    if (e.state != 0) return -2;
    e.state = taken ? 1 : 2;
    return 1;
  }

  public int cut(int n, int k) {
    Edit e = edit(n);
    if (e == null) return -1;
    if (e.kind == 2) return -13;
    List<Piece> letters = letters(n);
    if (e.state != 0 || k < 1 || k > letters.size() - 1) return -2;
    if (edits.size() == 24) return -3;
    Edit f = make(e.kind, e.hand, e.look);
    for (Piece p : letters.subList(k, letters.size())) { p.edits.remove(n); p.edits.add(f.number); }
    return f.number;
  }

  public int change(int n, int what) {
    Edit e = edit(n);
    if (e == null || what < 0 || what > 4) return -1;
    return new int[] {e.kind, e.hand, e.state, e.look, letters(n).size()}[what];
  }

  public int span(int n, int v, boolean last) {
    if (edit(n) == null || !view(v)) return -1;
    List<Piece> s = shown(v);
    TreeSet<Integer> at = new TreeSet<>();
    for (int i = 0; i < s.size(); i++) if (s.get(i).edits.contains(n)) at.add(i);
    return at.isEmpty() ? -2 : last ? at.last() : at.first();
  }

  public int look(int n, int look) {
    Edit e = edit(n);
    if (e == null || look < 1 || look > 7) return -1;
    if (e.kind != 3) return -13;
    if (e.state != 0) return -2;
    int was = e.look;
    e.look = look;
    return was;
  }

  public int clash(int a, int b) {
    if (edit(a) == null || edit(b) == null || a == b) return -1;
    Edit x = edit(Math.min(a, b)), y = edit(Math.max(a, b));
    if (x.state != 0 || y.state != 0 || x.hand == y.hand) return 0;
    boolean common = false;
    for (Piece p : row) common |= p.token == null && p.edits.contains(a) && p.edits.contains(b);
    if (!common) return 0;
    if (x.kind == 0 && y.kind == 1 || x.kind == 1 && y.kind == 0) return 1;
    if (x.kind == 2 && y.kind == 2) return 2;
    if (x.kind == 3 && y.kind == 3 && x.look != y.look) return 3;
    if (x.kind == 1 && y.kind >= 3 || y.kind == 1 && x.kind >= 3) return 4;
    return 0;
  }

  public int clashes() {
    int found = 0;
    for (int b = 2; b <= edits.size(); b++) for (int a = 1; a < b; a++) if (clash(a, b) > 0) found++;
    return found;
  }

  // ---- 3 comparing, cleaning

  static int[][] alike(String now, String then) {
    int[][] most = new int[now.length() + 1][then.length() + 1];
    for (int i = now.length() - 1; i >= 0; i--) {
      for (int j = then.length() - 1; j >= 0; j--) {
        most[i][j] = Math.max(most[i + 1][j], most[i][j + 1]);
        if (now.charAt(i) == then.charAt(j)) most[i][j] = Math.max(most[i][j], 1 + most[i + 1][j + 1]);
      }
    }
    return most;
  }

  /** The steps, a sign each: = kept, - STRUCK, + PUT. */
  static String steps(String now, String then) {
    int[][] most = alike(now, then);
    StringBuilder out = new StringBuilder();
    int i = 0, j = 0;
    while (i < now.length() || j < then.length()) {
      if (i < now.length() && j < then.length() && now.charAt(i) == then.charAt(j)) { out.append('='); i++; j++; }
      else if (i < now.length() && most[i + 1][j] == most[i][j]) { out.append('-'); i++; }
      else { out.append('+'); j++; }
    }
    return out.toString();
  }

  public int compare(int h) {
    if (!hand(h)) return -1;
    List<Piece> now = shown(1);
    StringBuilder text = new StringBuilder();
    for (Piece p : now) text.append(p.sign);
    String steps = steps(text.toString(), tape);
    String[] gaps = steps.split("=", -1);
    int due = 0, letters = 0;
    for (String g : gaps) {
      due += (g.contains("-") ? 1 : 0) + (g.contains("+") ? 1 : 0);
      letters += g.replace("-", "").length();
    }
    if (edits.size() + due > 24 || row.size() + letters > 240) return -3;
    int i = 0, j = 0;
    for (String g : gaps) {
      int struck = g.replace("+", "").length(), put = g.replace("-", "").length();
      if (struck > 0) {
        Edit e = make(1, h, 0);
        for (Piece p : now.subList(i, i + struck)) p.edits.add(e.number);
      }
      i += struck;
      if (put > 0) putBehind(i == 0 ? null : now.get(i - 1), make(0, h, 0), tape.substring(j, j + put));
      i++;
      j += put + 1;
    }
    tape = "";
    return due;
  }

  public int clean() {
    for (Edit e : edits) if (e.kind == 2 && e.state == 0) return -2;
    List<Piece> all = new ArrayList<>(), left = new ArrayList<>();
    unfold(0, 1, true, all);
    for (Piece p : all) {
      boolean goes = false;
      for (int n : p.edits) {
        Edit e = edit(n);
        goes |= e.kind == 0 && e.state == 2 || e.kind == 1 && e.state == 1;
      }
      if (!goes) left.add(p);
    }
    for (Piece p : left) {
      for (int n : p.edits) {
        Edit e = edit(n);
        if (e.kind == 3 && e.state == 1 && n > p.wornUpTo) { p.own = e.look; p.wornUpTo = n; }
      }
      p.edits.removeIf(n -> edit(n).state != 0);
    }
    row = left;
    return row.size();
  }

  public int count(int what) {
    int tokens = 0;
    int[] states = new int[3];
    for (Piece p : row) if (p.token != null) tokens++;
    for (Edit e : edits) states[e.state]++;
    int[] all = {row.size() - tokens, tokens, edits.size(), states[0], states[1], states[2], tape.length()};
    return what < 0 || what > 6 ? -1 : all[what];
  }
}
