/** Each promise of the document by its number: ordinary inputs, the edges that it names, and wrong inputs. */
public final class PromisesTest extends Checks {
  public static void main(String[] args) {
    newObject(); type(); begin(); length(); told(); toldLooks(); place();
    put(); putBehind(); putFull(); marks(); marksFull(); shape(); move(); moveTokens(); moveRound(); moveDeep(); moveFull();
    settle(); cut(); change(); span(); look(); clash(); clashes();
    compare(); compareGaps(); compareLong(); compareMoved(); compareFull(); clean(); cleanMoved(); cleanLooks(); count();
    end("PromisesTest");
  }

  // ---- 1 .. 6: texts

  private static void newObject() {
    Desk x = new Desk();
    for (int what = 0; what <= 6; what++) due("1 count(" + what + ")", x.count(what), 0);
    for (int v = 0; v <= 6; v++) due("1 length(" + v + ")", x.length(v), 0);
    due("1 clashes", x.clashes(), 0);
    due("1 change", x.change(1, 0), BAD);
    due("1 another's", typed(new Desk(), "a").count(6) + new Desk().count(6), 1);
  }

  private static void type() {
    Desk x = new Desk();
    due("2 eight", x.type(0x4142434445464748L, 8), 8);
    due("2 lowest", x.type(0x0001FF2049L, 2), 10);
    due("2 ends", x.type(0x207EL, 2), 12);
    due("2 other bytes free", x.type(-256L + 'z', 1), 13);
    due("2 no bytes", x.type('a', 0), BAD);
    due("2 nine", x.type(0x4142434445464748L, 9), BAD);
    due("2 n below", x.type('a', LEAST), BAD);
    due("2 n above", x.type('a', MOST), BAD);
    due("2 31", x.type(31, 1), BAD);
    due("2 127", x.type(127, 1), BAD);
    due("2 200", x.type(200, 1), BAD);
    due("2 255", x.type(-1L, 8), BAD);
    due("2 highest wrong", x.type(0x1F41424344454647L, 8), BAD);
    due("2 lowest wrong", x.type(0x414243444546471FL, 8), BAD);
    due("2 inner wrong", x.type(0x41427F4445464741L, 8), BAD);
    due("2 refused stays", x.count(6), 13);
    x.begin();
    due("2 order", text(x, 0), "ABCDEFGH I ~z");
    typed(x, repeated("x", 115));
    due("2 full", x.type(0x414141414141L, 6), FULL);
    due("2 bad before full", x.type(0x41414141411FL, 6), BAD);
    due("2 full stays", x.count(6), 115);
    due("2 to the brim", x.type(0x4141414141L, 5), 120);
    due("2 one more", x.type('a', 1), FULL);
  }

  private static void begin() {
    Desk x = desk("abc");
    due("3 text", text(x, 0) + text(x, 1) + text(x, 2) + text(x, 6), "abcabcabcabc");
    due("3 tape", x.count(6), 0);
    due("3 again", typed(muchChanged(x), "wxyz").begin(), 4);
    due("3 all else goes", seen(() -> { Desk y = typed(muchChanged(desk("abc")), "wxyz"); y.begin(); return y; }),
        seen(() -> desk("wxyz")));
    due("3 numbers from 1", x.strike(0, 0, 1), 1);
    due("3 open again", x.change(1, 2), 0);
    due("3 empty", x.begin(), 0);
    due("3 empty row", x.count(0) + x.count(2), 0);
    due("3 full tape", typed(x, repeated("q", 120)).begin(), 120);
  }

  private static Desk muchChanged(Desk x) {
    x.strike(0, 0, 2);
    x.move(1, 0, 1, 2);
    x.shape(1, 0, 1, 2);
    x.settle(1, true);
    return x;
  }

  /** "abcd"; 1 PUT "XY" by 0 behind b; 2 STRUCK bc by 1. */
  private static Desk example() {
    Desk x = desk("abcd");
    put(x, 0, 2, "XY");
    x.strike(1, 1, 3);
    return x;
  }

  private static void length() {
    Desk x = example();
    int[] due = {4, 4, 4, 6, 2, 4, 4};
    for (int v = 0; v <= 6; v++) due("4 length(" + v + ")", x.length(v), due[v]);
    due("4 below", x.length(-1), BAD);
    due("4 above", x.length(7), BAD);
    due("4 far", x.length(LEAST) + x.length(MOST), 2 * BAD);
    due("4 all", text(x, 2), "aXYd");
    x.settle(1, true);
    due("4 put taken", text(x, 1) + text(x, 0) + text(x, 4) + text(x, 6), "abXYcdabcdaXYdabXYcd");
    x.settle(2, false);
    due("4 strike refused", text(x, 2) + text(x, 4), "abXYcdabXYcd");
  }

  private static void told() {
    Desk x = example();
    x.remark(3, 0, 4);
    x.remark(0, 0, 6);
    x.shape(0, 0, 3, 5);
    x.move(2, 0, 2, 4);
    due("5 bytes", text(x, 3), "abXYcd");
    due("5 looks", told(x, 3, 1), "555000");
    due("5 puts", told(x, 3, 2), "001100");
    due("5 standing", told(x, 5, 3), "0066");
    due("5 standing, elsewhere", told(x, 3, 3), "000000");
    due("5 struck", told(x, 3, 4), "010010");
    due("5 moved", told(x, 3, 5), "110000");
    due("5 shaped", told(x, 3, 6), "111000");
    due("5 remarks", told(x, 3, 7), "221122");
    x.settle(2, false);
    x.settle(3, true);
    x.settle(5, false);
    due("5 settled, too", told(x, 3, 4) + told(x, 3, 7) + told(x, 3, 6), "010010" + "221122" + "111000");
    due("5 settled look", told(x, 3, 1), "000000");
    due("5 view", x.told(7, 0, 0) + x.told(-1, 0, 0) + x.told(LEAST, 0, 0) + x.told(MOST, 0, 0), 4 * BAD);
    due("5 place", x.told(0, 4, 0) + x.told(0, -1, 0) + x.told(0, LEAST, 0) + x.told(0, MOST, 0), 4 * BAD);
    due("5 what", x.told(0, 0, 8) + x.told(0, 0, -1) + x.told(0, 0, LEAST) + x.told(0, 0, MOST), 4 * BAD);
    due("5 empty", new Desk().told(0, 0, 0), BAD);
  }

  private static void toldLooks() {
    Desk x = desk("abc");
    x.shape(0, 0, 2, 3);
    x.shape(1, 1, 3, 4);
    x.shape(0, 1, 2, 6);
    due("5 first, now", told(x, 0, 1) + told(x, 1, 1), "000000");
    due("5 latest of all", told(x, 2, 1), "364");
    due("5 hands'", told(x, 3, 1) + told(x, 4, 1) + told(x, 5, 1), "360044000");
    x.settle(2, true);
    due("5 taken for all", told(x, 1, 1) + told(x, 5, 1), "044044");
    due("5 an earlier taken one", told(x, 3, 1), "364");
    x.settle(3, false);
    due("5 refused for none", told(x, 3, 1) + told(x, 2, 1), "344344");
    due("5 first is bare", told(x, 0, 1), "000");
  }

  private static void place() {
    Desk x = example();
    due("6 there", x.place(3, 5, 0), 3);
    due("6 itself", x.place(3, 4, 3), 4);
    due("6 to all", x.place(3, 2, 2) + 10 * x.place(3, 3, 2), 21);
    due("6 struck there", x.place(3, 1, 4), NOT);
    due("6 not put there", x.place(3, 2, 1), NOT);
    due("6 first place", x.place(4, 0, 6), 0);
    due("6 view", x.place(7, 0, 0) + x.place(-1, 0, 0), 2 * BAD);
    due("6 other", x.place(0, 0, 7) + x.place(0, 0, -1) + x.place(0, 0, MOST), 3 * BAD);
    due("6 place", x.place(4, 2, 0) + x.place(4, -1, 0) + x.place(4, LEAST, 0), 3 * BAD);
    Desk y = desk("abab");
    y.move(0, 0, 2, 4);
    due("6 of the letter, not its byte", y.place(3, 0, 0) + 10 * y.place(0, 0, 3), 22);
  }

  // ---- 7 .. 11: changes made

  private static void put() {
    Desk x = desk("ab");
    due("7 first", put(x, 1, 0, "XY"), 1);
    due("7 tape goes", x.count(6), 0);
    due("7 open", x.change(1, 2) + x.change(1, 3), 0);
    due("7 at the beginning", text(x, 4), "XYab");
    due("7 for one's view alone", text(x, 3), "ab");
    due("7 at the end", put(x, 1, 4, "Z"), 2);
    due("7 within one's own", put(x, 1, 1, "w"), 3);
    due("7 text", text(x, 4), "XwYabZ");
    due("7 another's place", put(x, 0, 1, "-"), 4);
    due("7 behind the letter", text(x, 2), "XwYa-bZ");
    due("7 no tape", x.put(0, 0), NOT);
    typed(x, "q");
    due("7 hand", x.put(4, 0) + x.put(-1, 0) + x.put(LEAST, 0) + x.put(MOST, 0), 4 * BAD);
    due("7 place", x.put(0, 4) + x.put(0, -1) + x.put(0, LEAST) + x.put(0, MOST), 4 * BAD);
    due("7 tape stays", x.count(6), 1);
    due("7 bad before not", new Desk().put(4, 0) + new Desk().put(0, 1), 2 * BAD);
    due("7 into nothing", put(new Desk(), 3, 0, "abc"), 1);
  }

  private static void putBehind() {
    Desk x = desk("abcd");
    x.strike(0, 1, 3);
    put(x, 0, 1, "X");
    due("7 right behind what is shown", text(x, 4), "abcd");
    x.settle(2, true);
    due("7 ahead of what is struck", text(x, 4), "aXbcd");
    Desk y = desk("abcd");
    put(y, 0, 0, "1");
    put(y, 1, 0, "2");
    due("7 the later one ahead", text(y, 2), "21abcd");
    Desk z = desk("abcd");
    z.move(0, 0, 2, 4);
    put(z, 0, 3, "X");
    due("7 in the moved one", text(z, 3) + told(z, 3, 5) + told(z, 3, 3), "cdaXb" + "00111" + "00111");
    put(z, 0, 2, "Y");
    due("7 behind d, in the row", text(z, 3) + told(z, 3, 5), "cdYaXb" + "000111");
    z.settle(1, false);
    put(z, 0, 2, "Z");
    due("7 in a refused one, too", text(z, 3) + told(z, 3, 5), "aXZbcdY" + "1111000");
  }

  private static void putFull() {
    Desk x = desk(repeated("a", 120));
    due("7 half", put(x, 0, 60, repeated("b", 119)), 1);
    typed(x, "cd");
    due("7 full row", x.put(0, 0), FULL);
    due("7 bad before full", x.put(0, 240) + x.put(4, 0), 2 * BAD);
    due("7 nothing made", x.count(0) + x.count(2) + x.count(6), 239 + 1 + 2);
    Desk y = oneLeft();
    due("7 the last one", put(y, 0, 239, "c"), 2);
    due("7 none left", put(y, 0, 0, "d"), FULL);
    due("7 not before full", fullRow().put(0, 0), NOT);
    Desk z = fullOfChanges("ab");
    due("7 full changes", put(z, 0, 0, "x"), FULL);
    due("7 tape stays", z.count(6), 1);
    due("7 row is as it was", text(z, 2), "ab");
    Desk v = desk(repeated("a", 120));
    v.move(0, 0, 1, 5);
    due("7 a token takes room", put(v, 0, 0, repeated("b", 120)), FULL);
  }

  private static void marks() {
    for (int kind = 1; kind <= 4; kind += kind == 1 ? 2 : 1) {
      String p = (kind == 1 ? 8 : kind == 3 ? 9 : 10) + " ";
      Desk x = desk("abcd");
      due(p + "made", mark(x, kind, 2, 1, 3), 1);
      due(p + "alike", x.change(1, 0) + 10 * x.change(1, 1) + 100 * x.change(1, 2) + 1000 * x.change(1, 4), 2020 + kind);
      due(p + "letters", told(x, 0, kind == 1 ? 4 : kind + 3), "0110");
      due(p + "whole", mark(x, kind, 0, 0, 4), 2);
      due(p + "hand", mark(x, kind, 4, 0, 1) + mark(x, kind, -1, 0, 1) + mark(x, kind, LEAST, 0, 1), 3 * BAD);
      due(p + "none", mark(x, kind, 1, 1, 1) + mark(x, kind, 1, 0, 0) + mark(x, kind, 1, 4, 4), 3 * BAD);
      due(p + "turned", mark(x, kind, 1, 2, 1), BAD);
      due(p + "out", mark(x, kind, 1, 0, 5) + mark(x, kind, 1, -1, 1) + mark(x, kind, 1, 4, 5), 3 * BAD);
      due(p + "far", mark(x, kind, 1, LEAST, MOST) + mark(x, kind, 1, 0, MOST) + mark(x, kind, 1, LEAST, 1), 3 * BAD);
      due(p + "nothing made", x.count(2), 2);
      due(p + "tape free", x.count(6), 0);
    }
    Desk y = desk("abcd");
    y.strike(0, 1, 3);
    due("8 for the hand", text(y, 3) + text(y, 4) + text(y, 2) + text(y, 1), "adabcdadabcd");
    due("8 in the hand's view", y.strike(0, 0, 2), 2);
    due("8 the hand's letters", told(y, 0, 4), "1111");
    due("8 nothing left", y.strike(0, 0, 1), BAD);
    due("8 another's whole", y.strike(1, 0, 4), 3);
    due("8 twice", told(y, 0, 4), "2222");
  }

  private static void marksFull() {
    Desk x = fullOfChanges("abc");
    due("8 full", x.strike(0, 0, 1), FULL);
    due("9 full", x.shape(0, 0, 1, 7), FULL);
    due("10 full", x.remark(0, 0, 1), FULL);
    due("8 bad first", x.strike(0, 0, 4) + x.strike(4, 0, 1), 2 * BAD);
    due("9 bad first", x.shape(0, 0, 4, 1) + x.shape(0, 0, 1, 8), 2 * BAD);
    due("10 bad first", x.remark(0, 3, 4), BAD);
    due("8 nothing entered", told(x, 0, 4) + told(x, 0, 6), "000000");
    Desk y = fullRow();
    due("8 a full row is no matter", y.strike(0, 0, 240) + y.remark(1, 0, 120), 5);
  }

  private static void shape() {
    Desk x = desk("abc");
    due("9 least", x.shape(0, 0, 1, 1), 1);
    due("9 greatest", x.shape(0, 1, 2, 7), 2);
    due("9 look", x.shape(0, 0, 1, 0) + x.shape(0, 0, 1, 8) + x.shape(0, 0, 1, -1) + x.shape(0, 0, 1, MOST), 4 * BAD);
    due("9 told", told(x, 3, 1) + x.change(1, 3) + x.change(2, 3), "17017");
    due("9 nothing made", x.count(2), 2);
  }

  private static void move() {
    Desk x = desk("abcdefgh");
    due("11 to the right", x.move(0, 1, 3, 6), 1);
    due("11 text", text(x, 3) + " " + text(x, 2) + " " + text(x, 4), "adefbcgh adefbcgh abcdefgh");
    due("11 told", told(x, 3, 3) + told(x, 0, 5), "00001100" + "01100000");
    due("11 a token", x.count(1) + x.count(0) * 10, 81);
    due("11 has letters, no tokens", x.change(1, 4) + x.change(1, 0), 4);
    due("11 to the left", x.move(1, 6, 8, 0), 2);
    due("11 text of 1", text(x, 4), "ghabcdef");
    due("11 both", text(x, 2), "ghadefbc");
    due("11 where it is, a", x.move(2, 1, 3, 1), 3);
    due("11 where it is, b", x.move(2, 1, 3, 3), 4);
    due("11 same text", text(x, 5), "abcdefgh");
    due("11 all", x.move(3, 0, 8, 8) + x.move(3, 0, 8, 0), 11);
    Desk y = desk("abcd");
    due("11 within", y.move(0, 0, 4, 1) + y.move(0, 0, 4, 3) + y.move(0, 1, 3, 2), 3 * BAD);
    due("11 hand", y.move(4, 0, 1, 2) + y.move(-1, 0, 1, 2) + y.move(MOST, 0, 1, 2), 3 * BAD);
    due("11 span", y.move(0, 1, 1, 0) + y.move(0, 2, 1, 0) + y.move(0, -1, 1, 3) + y.move(0, 0, 5, 0), 4 * BAD);
    due("11 c", y.move(0, 0, 1, 5) + y.move(0, 0, 1, -1) + y.move(0, 0, 1, LEAST) + y.move(0, 0, 1, MOST), 4 * BAD);
    due("11 nothing made", y.count(1) + y.count(2), 0);
    y.move(0, 0, 2, 4);
    y.settle(1, false);
    due("11 refused", text(y, 3) + text(y, 2), "abcdabcd");
    due("11 still in it", told(y, 3, 5) + told(y, 3, 3), "11000000");
  }

  private static void moveTokens() {
    Desk x = desk("abcdef");
    x.move(0, 0, 1, 3);
    due("11 a behind c", text(x, 3), "bcadef");
    due("11 c a d to the end", x.move(0, 1, 4, 6), 2);
    due("11 text, a in the row's order", text(x, 3), "befacd");
    due("11 a is in both", told(x, 3, 5) + " " + told(x, 3, 3), "000211 000222");
    Desk y = desk("abcdef");
    y.move(0, 0, 1, 3);
    y.move(0, 1, 2, 6);
    due("11 only c goes", text(y, 3), "badefc");
    due("11 c to the end, then b and d with the token", y.move(0, 0, 3, 5), 3);
    due("11 text", text(y, 3), "efabdc");
    Desk z = desk("abcdef");
    z.move(1, 5, 6, 2);
    z.move(0, 1, 4, 0);
    due("11 another's token goes along", text(z, 2) + " " + text(z, 3) + " " + text(z, 4), "bfcdae bcdaef abfcde");
    Desk v = desk("abcdef");
    v.move(1, 5, 6, 4);
    v.move(0, 1, 4, 0);
    due("11 a token behind the last one stays", text(v, 2), "bcdafe");
    Desk w = desk("abcdef");
    w.move(1, 5, 6, 1);
    w.move(0, 1, 4, 0);
    due("11 a token ahead of the first one stays", text(w, 2), "bcdafe");
    moveTokensStandElsewhere();
  }

  private static void moveTokensStandElsewhere() {
    Desk x = desk("abcdef");
    x.move(0, 1, 4, 6);
    x.move(0, 5, 6, 4);
    due("11 behind b, in its own", text(x, 3), "aefbdc");
    Desk y = desk("abcdef");
    y.move(0, 1, 4, 6);
    put(y, 0, 0, "-");
    due("11 a token in the moved", y.move(0, 0, 1, 5), 3);
    due("11 text", text(y, 3), "aefb-cd");
    due("11 a to e, the token standing elsewhere stays", y.move(0, 0, 3, 7), 4);
    due("11 text", text(y, 3), "b-cdaef");
    due("11 each in its own", told(y, 3, 3), "1311444");
  }

  private static void moveRound() {
    Desk x = desk("abcd");
    due("11 one", x.move(0, 0, 2, 4), 1);
    due("11 in one's own, behind its last", text(x, 3), "cdab");
    due("11 within its span", x.move(0, 2, 4, 3), BAD);
    due("11 another hand's, likewise", x.move(1, 0, 2, 4), 2);
    Desk y = desk("abcdef");
    y.move(0, 0, 2, 4);
    due("11 cd behind b, in the first", y.move(1, 2, 4, 2), 2);
    due("11 one within another", text(y, 2) + told(y, 2, 3), "abcdef" + "112200");
    Desk z = desk("abcdef");
    z.move(0, 0, 3, 5);
    due("11 def behind a", z.move(1, 3, 6, 1), NOT);
    due("11 nothing made", z.count(2) + z.count(1) + z.change(1, 4), 5);
    due("11 token told as before", told(z, 0, 5), "111000");
    z.settle(1, false);
    due("11 round through a refused one", z.move(1, 3, 6, 1), NOT);
    due("11 not round", z.move(1, 3, 6, 0), 2);
  }

  /** Each TOKEN within the one before it, to the last number there is. */
  private static void moveDeep() {
    Desk x = desk("abcdefghijklmnopqrstuvwxyz");
    due("11 behind b", x.move(0, 0, 1, 2), 1);
    StringBuilder homes = new StringBuilder("01");
    for (int n = 2; n <= 24; n++) {
      due("11 one deeper", x.move(0, n, n + 1, n), n);
      homes.append(Character.forDigit(n, 36));
    }
    due("11 deep text", text(x, 3), "bacdefghijklmnopqrstuvwxyz");
    due("11 deep homes", told(x, 3, 3), homes + "0");
    Desk y = desk("abcdef");
    y.move(0, 0, 1, 2);
    y.move(0, 2, 3, 2);
    y.move(0, 3, 4, 3);
    due("11 text", text(y, 3) + told(y, 3, 3), "bacdef" + "012300");
    due("11 round over three", y.move(1, 0, 3, 4) + 10 * y.move(1, 0, 4, 6) + 100 * y.move(0, 0, 2, 3), NOT + 40 + 100 * NOT);
  }

  private static void moveFull() {
    Desk x = fullOfChanges("abc");
    due("11 full changes", x.move(0, 0, 1, 2), FULL);
    due("11 bad first", x.move(0, 0, 4, 0), BAD);
    due("11 nothing made", x.count(1), 0);
    Desk y = oneLeft();
    due("11 the last one", y.move(0, 0, 1, 3), 2);
    due("11 full row", y.move(0, 0, 1, 3), FULL);
    due("11 no change", y.count(2), 2);
    Desk z = desk("abcdef");
    z.move(0, 0, 3, 5);
    withChanges(z, 24);
    due("11 not before full", z.move(1, 3, 6, 1), NOT);
    due("11 else full", z.move(1, 3, 6, 0), FULL);
  }

  // ---- 12 .. 18: changes settled, cut, told

  private static void settle() {
    Desk x = example();
    due("12 taken", x.settle(1, true), 1);
    due("12 refused", x.settle(2, false), 1);
    due("12 states", x.change(1, 2) + 10 * x.change(2, 2), 21);
    due("12 again", x.settle(1, true) + x.settle(1, false) + x.settle(2, true), 3 * NOT);
    due("12 still", x.change(1, 2) + 10 * x.change(2, 2), 21);
    due("12 bad", x.settle(0, true) + x.settle(3, true) + x.settle(-1, false) + x.settle(25, false), 4 * BAD);
    due("12 far", x.settle(LEAST, true) + x.settle(MOST, true) + x.settle(33, true), 3 * BAD);
    due("12 in any order", text(x, 1), "abXYcd");
    Desk y = desk("abc");
    put(y, 0, 1, "XYZ");
    y.strike(0, 2, 3);
    y.settle(2, true);
    due("12 struck within a put not taken", text(y, 1) + text(y, 3) + text(y, 4), "abcaXZbcabc");
    y.settle(1, true);
    due("12 both taken", text(y, 1), "aXZbc");
  }

  private static void cut() {
    Desk x = desk("abcd");
    x.strike(2, 0, 4);
    due("13 new number", x.cut(1, 1), 2);
    due("13 letters", x.change(1, 4) + 10 * x.change(2, 4), 31);
    due("13 alike", x.change(2, 0) + 10 * x.change(2, 1) + 100 * x.change(2, 2), 21);
    x.settle(2, true);
    due("13 from the k-th on", text(x, 1), "a");
    due("13 open ones", x.cut(2, 1), NOT);
    due("13 one letter", x.cut(1, 1), NOT);
    due("13 bad", x.cut(0, 1) + x.cut(3, 1) + x.cut(-1, 1) + x.cut(LEAST, 1) + x.cut(MOST, 1), 5 * BAD);
    Desk y = desk("abcd");
    put(y, 1, 0, "wxyz");
    y.shape(0, 0, 4, 6);
    y.remark(0, 1, 3);
    y.move(0, 0, 2, 3);
    due("13 moved", y.cut(4, 1) + y.cut(4, 0), 2 * CAST);
    due("13 k", y.cut(1, 0) + y.cut(1, 4) + y.cut(1, -1) + y.cut(1, LEAST) + y.cut(1, MOST), 5 * NOT);
    due("13 put, at the last", y.cut(1, 3), 5);
    due("13 put's letters", told(y, 4, 2), "11150000");
    due("13 shaped", y.cut(2, 2) + y.change(6, 3), 12);
    due("13 remark", y.cut(3, 1), 7);
    due("13 sizes", "" + y.change(1, 4) + y.change(5, 4) + y.change(2, 4) + y.change(6, 4) + y.change(3, 4) + y.change(7, 4), "312211");
    y.settle(4, true);
    due("13 cast before not", y.cut(4, 1), CAST);
    due("13 in the row's order", text(y, 1) + told(y, 0, 6), "cabd1111");
    Desk z = fullOfChanges("ab");
    z.settle(2, true);
    due("13 not before full", z.cut(1, 1) + z.cut(2, 1), 2 * NOT);
    Desk v = desk("ab");
    v.strike(0, 0, 2);
    for (int n = 2; n <= 24; n++) v.remark(1, 0, 1);
    due("13 full", v.cut(1, 1), FULL);
    due("13 nothing cut", v.change(1, 4), 2);
  }

  private static void change() {
    Desk x = desk("abcdef");
    put(x, 1, 0, "xyz");
    x.strike(2, 0, 1);
    x.move(3, 0, 2, 4);
    x.shape(0, 0, 4, 7);
    x.remark(1, 0, 5);
    x.settle(2, true);
    x.settle(3, false);
    int[][] due = {{0, 1, 0, 0, 3}, {1, 2, 1, 0, 1}, {2, 3, 2, 0, 2}, {3, 0, 0, 7, 4}, {4, 1, 0, 0, 5}};
    for (int n = 1; n <= 5; n++) {
      for (int what = 0; what <= 4; what++) due("14 change(" + n + ", " + what + ")", x.change(n, what), due[n - 1][what]);
    }
    due("14 number", x.change(0, 0) + x.change(6, 0) + x.change(-1, 0) + x.change(LEAST, 0) + x.change(MOST, 0), 5 * BAD);
    due("14 what", x.change(1, 5) + x.change(1, -1) + x.change(1, LEAST) + x.change(1, MOST), 4 * BAD);
  }

  private static void span() {
    Desk x = example();
    x.remark(3, 1, 4);
    due("15 first", x.span(1, 2, false) + 10 * x.span(1, 2, true), 21);
    due("15 in another view", x.span(3, 0, false) + 10 * x.span(3, 0, true), 31);
    due("15 some hidden", x.span(3, 4, false) + 10 * x.span(3, 4, true), 11);
    due("15 none", x.span(1, 1, false) + x.span(1, 1, true) + x.span(2, 2, false), 3 * NOT);
    due("15 settled", x.settle(1, true) + x.span(1, 1, true), 4);
    due("15 change", x.span(0, 0, true) + x.span(4, 0, true) + x.span(MOST, 0, true), 3 * BAD);
    due("15 view", x.span(1, 7, true) + x.span(1, -1, false) + x.span(1, LEAST, false), 3 * BAD);
    Desk y = desk("abcdef");
    y.remark(0, 0, 3);
    y.move(1, 1, 2, 6);
    due("15 moved apart", y.span(1, 4, false) + 10 * y.span(1, 4, true), 50);
    due("15 of a moved one", y.span(2, 4, false) + 10 * y.span(2, 0, false), 15);
    Desk z = desk("abcdef");
    z.remark(0, 0, 2);
    z.move(1, 0, 1, 6);
    due("15 least place, not first letter", z.span(1, 4, false) + 10 * z.span(1, 4, true), 50);
  }

  private static void look() {
    Desk x = desk("abc");
    x.shape(1, 0, 2, 3);
    x.remark(1, 0, 2);
    due("16 what it was", x.look(1, 5) + 10 * x.look(1, 7), 53);
    due("16 now", x.change(1, 3) + 10 * x.told(4, 0, 1), 77);
    due("16 look", x.look(1, 0) + x.look(1, 8) + x.look(1, LEAST) + x.look(1, MOST), 4 * BAD);
    due("16 number", x.look(0, 1) + x.look(3, 1) + x.look(-1, 1) + x.look(MOST, 1), 4 * BAD);
    due("16 cast", x.look(2, 1), CAST);
    due("16 bad before cast", x.look(2, 8), BAD);
    x.settle(1, true);
    x.settle(2, true);
    due("16 not open", x.look(1, 2), NOT);
    due("16 cast before not", x.look(2, 2), CAST);
    due("16 bad before not", x.look(1, 8), BAD);
    due("16 stays", x.change(1, 3), 7);
  }

  private static void clash() {
    Desk x = desk("abcdef");
    put(x, 0, 0, "XY");
    x.settle(1, true);
    put(x, 0, 0, "Z");
    x.strike(0, 0, 4);
    x.strike(1, 0, 3);
    due("17 put taken", x.clash(1, 4), 0);
    due("17 put not shown there", x.clash(2, 4), 0);
    due("17 two strikes", x.clash(3, 4), 0);
    due("17 one", x.clash(4, 4), BAD);
    due("17 numbers", x.clash(0, 1) + x.clash(1, 0) + x.clash(5, 1) + x.clash(1, 5) + x.clash(LEAST, MOST), 5 * BAD);
    clashOne(); clashMoved(); clashShaped(); clashStruck();
  }

  /** No HAND sees another one's OPEN PUT, so that no call can bring about clash 1: only its absence can be tested. */
  private static void clashOne() {
    Desk x = desk("ab");
    put(x, 0, 1, "X");
    due("17 unseen", x.clash(1, x.strike(1, 0, 2)), 0);
    Desk y = desk("ab");
    put(y, 0, 0, "XY");
    y.strike(0, 0, 2);
    due("17 own hand", y.clash(1, 2), 0);
  }

  private static void clashMoved() {
    Desk x = desk("abcdef");
    x.move(0, 0, 3, 4);
    x.move(1, 2, 4, 0);
    x.move(1, 4, 6, 0);
    x.move(0, 2, 4, 1);
    due("17 moved", x.clash(1, 2) + x.clash(2, 1), 4);
    due("17 moved apart", x.clash(1, 3), 0);
    due("17 moved, one hand", x.clash(1, 4) + x.clash(2, 3), 0);
    x.settle(2, false);
    due("17 settled", x.clash(1, 2), 0);
    Desk y = desk("abcdef");
    y.move(0, 0, 1, 3);
    y.move(1, 1, 5, 0);
    due("17 a token in both is no letter", y.clash(1, 2), 0);
  }

  private static void clashShaped() {
    Desk x = desk("abcdef");
    x.shape(0, 0, 3, 4);
    x.shape(1, 2, 4, 5);
    x.shape(1, 2, 4, 4);
    x.shape(2, 3, 4, 1);
    due("17 shaped", x.clash(1, 2) + x.clash(2, 1), 6);
    due("17 one look", x.clash(1, 3), 0);
    due("17 shaped apart", x.clash(1, 4), 0);
    due("17 shaped, with one", x.clash(2, 4), 3);
    x.look(1, 5);
    due("17 another look", x.clash(1, 2) + 10 * x.clash(1, 3), 30);
    due("17 moved and shaped", x.move(3, 0, 4, 5) + x.clash(1, 5), 5);
  }

  private static void clashStruck() {
    Desk x = desk("abcdef");
    x.remark(0, 0, 2);
    x.strike(1, 1, 4);
    x.shape(2, 3, 5, 1);
    x.strike(2, 0, 1);
    x.move(3, 0, 6, 6);
    x.remark(3, 0, 6);
    due("17 struck, remark", x.clash(1, 2) + x.clash(2, 1), 8);
    due("17 struck, shaped", x.clash(2, 3) + x.clash(3, 2), 8);
    due("17 remark, shaped", x.clash(6, 3) + x.clash(1, 6), 0);
    due("17 apart", x.clash(4, 3) + x.clash(4, 2), 0);
    due("17 struck, moved", x.clash(2, 5), 0);
    x.settle(2, true);
    due("17 taken", x.clash(1, 2) + x.clash(2, 3), 0);
  }

  private static void clashes() {
    Desk x = desk("abcdef");
    due("18 none", x.clashes(), 0);
    x.remark(0, 0, 2);
    x.strike(1, 1, 4);
    x.shape(2, 3, 5, 1);
    due("18 two", x.clashes(), 2);
    x.shape(3, 4, 5, 2);
    due("18 three", x.clashes(), 3);
    x.settle(2, false);
    due("18 settled", x.clashes(), 1);
    x.settle(3, true);
    due("18 all settled", x.clashes(), 0);
    Desk y = desk("ab");
    withChanges(y, 22);
    y.strike(1, 1, 2);
    y.remark(2, 1, 2);
    due("18 the last two", y.clashes() + 10 * y.clash(23, 24), 41);
    y.settle(23, true);
    y.settle(24, false);
    due("18 the last ones settled", y.clashes() + y.count(4) * 10 + y.count(5) * 100 + y.length(1) * 1000, 1110);
  }

  // ---- 19 .. 21: comparing, cleaning, counting

  /** Compares and tells each new CHANGE: its KIND's sign and its LETTERS. */
  private static String compared(Desk x, int hand, String to) {
    int before = x.count(2);
    int made = typed(x, to).compare(hand);
    StringBuilder out = new StringBuilder();
    for (int n = before + 1; n <= before + made; n++) {
      out.append("+-".charAt(x.change(n, 0))).append(x.change(n, 4)).append(x.change(n, 1) == hand ? "" : "?");
    }
    return out.toString();
  }

  private static void compare() {
    Desk x = desk("the quick");
    due("19 alike", compared(x, 0, "the quick"), "");
    due("19 tape goes", x.count(6), 0);
    due("19 words", compared(x, 2, "a quiet kk"), "-3+1" + "-1+3" + "+1");
    due("19 as the tape", text(x, 5), "a quiet kk");
    due("19 open", x.change(1, 2) + x.change(4, 2), 0);
    due("19 now as before", text(x, 1), "the quick");
    due("19 hand", x.compare(4) + x.compare(-1) + x.compare(LEAST) + x.compare(MOST), 4 * BAD);
    due("19 tape stays", typed(x, "ab").compare(4) + x.count(6), 1);
    due("19 nothing to nothing", new Desk().compare(0), 0);
    due("19 all struck", compared(desk("abc"), 1, ""), "-3");
    due("19 all put", compared(new Desk(), 3, "abc"), "+3");
    due("19 nothing alike", compared(desk("abc"), 1, "xyzw"), "-3+4");
    Desk y = desk("abc");
    y.strike(0, 0, 1);
    due("19 with now, not the hand's", compared(y, 0, "abc"), "");
    Desk z = desk("abc");
    z.strike(0, 0, 1);
    z.settle(1, true);
    due("19 with what is taken", compared(z, 0, "abc"), "+1");
    due("19 at the beginning of the row", text(z, 0) + text(z, 3) + z.told(3, 0, 2), "abcabc2");
  }

  private static void compareGaps() {
    Desk x = desk("ab");
    due("19 struck first", compared(x, 0, "ba"), "-1+1");
    due("19 keeps b", told(x, 0, 4), "10");
    due("19 put behind b", text(x, 2), "ba");
    Desk y = desk("axb");
    due("19 one behind the other", compared(y, 1, "aybz"), "-1+1+1");
    due("19 text", text(y, 4), "aybz");
    due("19 put behind the struck one", text(y, 2) + y.place(4, 1, 4), "aybz1");
    y.settle(2, true);
    due("19 order in the row", text(y, 1), "axyb");
    Desk z = desk("aa");
    due("19 the first alike one is kept", compared(z, 0, "a"), "-1");
    due("19 the second one goes", told(z, 0, 4), "01");
    Desk w = desk("xa");
    put(w, 1, 2, "!");
    due("19 behind the last", compared(w, 0, "xab"), "+1");
    due("19 earlier ones stay behind", text(w, 2), "xab!");
    Desk v = desk("xa");
    put(v, 1, 0, "!");
    due("19 ahead of the first", compared(v, 0, "bxa"), "+1");
    due("19 earlier ones at the beginning, too", text(v, 2), "b!xa");
    Desk u = desk("abcab");
    due("19 fewest", compared(u, 0, "bca"), "-1-1");
    Desk t = desk("abcabba");
    due("19 by the rule", compared(t, 0, "cbabac"), "-2" + "-1" + "+1" + "+1");
    due("19 text by the rule", text(t, 3), "cbabac");
  }

  /** Beyond 64 bytes, too, the fewest by the rule. */
  private static void compareLong() {
    String first = "", other = "";
    for (int i = 0; i < 120; i++) {
      first += (char) ('!' + i % 90);
      other += i % 40 == 25 ? '~' : first.charAt(i);
    }
    Desk x = desk(first);
    due("19 long, one by one", compared(x, 3, other), "-1+1-1+1-1+1");
    due("19 long text", text(x, 6), other);
    Desk y = desk(repeated("a", 70) + "bc" + repeated("d", 48));
    due("19 struck first, far behind", compared(y, 1, repeated("a", 70) + "cb" + repeated("d", 48)), "-1+1");
    due("19 long text", text(y, 4) + y.span(1, 0, true), repeated("a", 70) + "cb" + repeated("d", 48) + "70");
    Desk z = desk(repeated("a", 63) + "xyz" + repeated("d", 48));
    due("19 at the 64th", compared(z, 1, repeated("a", 63) + "zxy" + repeated("d", 48)), "+1-1");
    due("19 long text", text(z, 4), repeated("a", 63) + "zxy" + repeated("d", 48));
  }

  private static void compareMoved() {
    Desk x = desk("abcdef");
    x.move(0, 1, 3, 5);
    x.settle(1, true);
    due("19 now", text(x, 1), "adebcf");
    due("19 in the moved one", compared(x, 2, "adebcXf"), "+1");
    due("19 text", text(x, 5) + told(x, 5, 5), "adebcXf" + "0001110");
    Desk y = desk("abcdef");
    y.move(0, 1, 3, 5);
    y.settle(1, true);
    due("19 in none", compared(y, 2, "Xadebcf"), "+1");
    due("19 text", text(y, 5) + told(y, 5, 5), "Xadebcf" + "0000110");
    Desk z = desk("abcdef");
    z.move(0, 1, 3, 5);
    z.settle(1, true);
    due("19 several", compared(z, 2, "aXdYebZcf-"), "+1+1+1+1");
    due("19 text", text(z, 5) + told(z, 5, 5), "aXdYebZcf-" + "0000011100");
    Desk w = desk("abcdef");
    w.move(0, 1, 3, 5);
    due("19 an open one is not looked at", compared(w, 0, "abcdef"), "");
  }

  private static void compareFull() {
    Desk x = fullOfChanges("abc");
    due("19 full changes", typed(x, "abd").compare(0), FULL);
    due("19 tape stays", x.count(6) + x.count(2), 27);
    due("19 bad first", x.compare(4), BAD);
    Desk y = fullOfChanges("abc");
    due("19 nothing to make", typed(y, "abc").compare(0), 0);
    leaves("19 two of four", FULL, () -> typed(withChanges(desk("abc"), 22), "xby"), z -> z.compare(0));
    Desk v = desk("ab");
    withChanges(v, 22);
    due("19 two of two", typed(v, "ax").compare(0), 2);
    Desk q = desk("ab");
    withChanges(q, 23);
    due("19 one of one, put", typed(q, "axb").compare(0), 1);
    Desk p = desk("axb");
    withChanges(p, 23);
    due("19 one of one, struck", typed(p, "ab").compare(0) + p.change(24, 0), 2);
    Desk w = oneLeft();
    w.settle(1, false);
    due("19 full row", typed(w, repeated("a", 117) + "xya").compare(0), FULL);
    due("19 nothing made", w.count(0) + w.count(2) + w.count(6), 239 + 1 + 120);
    Desk u = oneLeft();
    u.settle(1, false);
    due("19 the last one", typed(u, repeated("a", 118) + "xa").compare(0), 2);
    due("19 row", u.count(0), 240);
    Desk t = oneLeft();
    t.settle(1, true);
    due("19 long", typed(t, repeated("b", 60) + repeated("a", 60)).compare(0), 2);
    due("19 long text", text(t, 3), repeated("b", 60) + repeated("a", 60));
  }

  private static void clean() {
    Desk x = desk("abcdef");
    put(x, 0, 1, "XY");
    put(x, 1, 2, "PQ");
    x.strike(2, 2, 4);
    x.strike(2, 0, 1);
    x.remark(3, 0, 6);
    put(x, 3, 6, "op");
    x.settle(1, true);
    x.settle(2, false);
    x.settle(3, true);
    due("20 left", x.clean(), 6 + 2 - 2 + 2);
    due("20 the first text", text(x, 0) + " " + text(x, 1) + " " + text(x, 6) + " " + text(x, 5), "aXYbef aXYbef aXYbefop XYbef");
    due("20 of the first text", told(x, 6, 2), "00000066");
    due("20 no letters", x.change(1, 4) + x.change(2, 4) + x.change(3, 4), 0);
    due("20 numbers stay", x.count(2) + x.change(1, 2) + x.change(2, 2) + x.change(3, 0), 6 + 1 + 2 + 1);
    due("20 open ones stay", x.change(4, 4) + x.change(5, 4) + x.change(6, 4), 1 + 4 + 2);
    due("20 remarks", told(x, 6, 7), "10011100");
    due("20 told no more", told(x, 0, 4), "100000");
    due("20 tape is no matter", typed(x, "q").clean() + x.count(6), 9);
    due("20 again", x.clean(), 8);
    due("20 the next number", x.strike(0, 0, 1), 7);
    due("20 nothing", new Desk().clean(), 0);
    Desk y = desk("abc");
    put(y, 0, 1, "XY");
    y.strike(0, 2, 3);
    y.settle(2, true);
    due("20 struck within an open put", y.clean(), 4);
    due("20 of the open put", y.change(1, 4) + y.length(1), 4);
    Desk z = desk("abc");
    z.strike(0, 0, 3);
    z.strike(1, 0, 3);
    z.settle(1, true);
    due("20 all go", z.clean() + z.change(2, 4), 0);
  }

  private static void cleanMoved() {
    leaves("20 open", NOT, () -> { Desk o = desk("abcdef"); o.move(0, 0, 2, 4); return o; }, o -> o.clean());
    Desk x = desk("abcdef");
    x.move(0, 0, 2, 4);
    x.settle(1, true);
    x.move(1, 4, 6, 0);
    due("20 another open", x.clean(), NOT);
    x.settle(2, false);
    x.strike(0, 0, 3);
    x.settle(3, true);
    put(x, 2, 2, "XY");
    due("20 now", text(x, 1) + " " + text(x, 5), "bef beXYf");
    due("20 left", x.clean(), 5);
    due("20 no tokens", x.count(1) + x.change(1, 4) + x.change(2, 4), 0);
    due("20 text", text(x, 0) + text(x, 1) + text(x, 5) + told(x, 0, 5), "befbefbeXYf000");
    Desk y = desk("abcdef");
    y.move(0, 0, 2, 4);
    put(y, 1, 1, "XY");
    y.strike(2, 1, 2);
    y.settle(1, true);
    due("20 also what is not there", y.clean(), 8);
    due("20 order", text(y, 0) + " " + text(y, 4) + " " + text(y, 5), "cdabef cdaXYbef cdaef");
  }

  private static void cleanLooks() {
    Desk x = desk("abcdef");
    x.shape(0, 0, 6, 1);
    x.shape(1, 0, 3, 2);
    x.shape(1, 0, 2, 3);
    x.shape(2, 1, 4, 4);
    x.shape(2, 2, 3, 5);
    x.settle(2, true);
    x.settle(3, true);
    x.settle(5, false);
    due("20 looks ahead", told(x, 1, 1) + " " + told(x, 2, 1) + " " + told(x, 3, 1) + " " + told(x, 5, 1),
        "332000 344411 332111 344400");
    x.clean();
    due("20 looks behind", told(x, 1, 1) + " " + told(x, 2, 1) + " " + told(x, 3, 1) + " " + told(x, 5, 1),
        "332000 344411 332111 344400");
    due("20 of the first text", told(x, 0, 1), "332000");
    due("20 an earlier one keeps its letters", x.change(1, 4) + told(x, 0, 6), "6122211");
    due("20 settled ones have none", x.change(2, 4) + x.change(3, 4) + x.change(5, 4), 0);
    x.look(4, 7);
    due("20 a later one still counts", told(x, 2, 1), "377711");
    x.settle(1, true);
    due("20 an earlier one, taken", told(x, 1, 1), "332111");
    x.clean();
    due("20 and cleaned", told(x, 1, 1) + told(x, 0, 6), "332111011100");
    x.settle(4, true);
    x.clean();
    due("20 the later one, too", told(x, 0, 1) + told(x, 0, 6), "377711000000");
    due("20 a new one counts", x.shape(3, 0, 6, 6) + told(x, 6, 1), "6666666");
    Desk y = desk("ab");
    y.shape(0, 0, 2, 1);
    y.shape(0, 0, 2, 2);
    y.settle(2, true);
    y.clean();
    y.cut(1, 1);
    due("20 cut behind, a new number counts", told(y, 3, 1), "21");
  }

  private static void count() {
    Desk x = desk("abcdef");
    put(x, 0, 1, "XY");
    x.move(1, 0, 2, 4);
    x.move(1, 1, 2, 4);
    x.strike(2, 0, 1);
    x.settle(1, true);
    x.settle(2, false);
    x.settle(4, true);
    typed(x, "qrstu");
    int[] due = {8, 2, 4, 1, 2, 1, 5};
    for (int what = 0; what <= 6; what++) due("21 count(" + what + ")", x.count(what), due[what]);
    due("21 bad", x.count(-1) + x.count(7) + x.count(LEAST) + x.count(MOST), 4 * BAD);
  }
}
