import java.util.Random;

/** Any numbers at all, at most 512 calls an object: no call throws, and each answers a refusal or a number. */
public final class NeverThrowsTest {
  private static final int[] ODD = {
    Integer.MIN_VALUE, Integer.MIN_VALUE + 1, -65, -64, -33, -32, -25, -24, -13, -3, -2, -1, 0, 1, 2, 3, 4, 5, 6, 7, 8, 9, 23,
    24, 25, 31, 32, 33, 63, 64, 65, 119, 120, 121, 127, 128, 239, 240, 241, 255, 256, 511, 512, 513, 65536,
    Integer.MAX_VALUE - 1, Integer.MAX_VALUE,
  };

  public static void main(String[] args) {
    int calls = 0, wrong = 0;
    for (int run = 0; run < 2000; run++) {
      Random random = new Random(run);
      RedlineDesk x = new RedlineDesk();
      for (int call = 0; call < 512; call++) {
        int answer = one(x, random);
        boolean refusal = answer == -1 || answer == -2 || answer == -3 || answer == -13;
        if (answer < 0 && !refusal || answer > 240) { wrong++; System.out.println("run " + run + ": a call answered " + answer); }
        calls++;
      }
    }
    System.out.println("NeverThrowsTest: " + calls + " calls, " + wrong + " wrong");
    if (wrong != 0) System.exit(1);
  }

  private static int any(Random r) {
    int turn = r.nextInt(4);
    return turn == 0 ? r.nextInt() : turn == 1 ? r.nextInt(26) : turn == 2 ? r.nextInt(8) : ODD[r.nextInt(ODD.length)];
  }

  private static int small(Random r) { return r.nextInt(12) == 0 ? any(r) : r.nextInt(5); }

  private static int one(RedlineDesk x, Random r) {
    switch (r.nextInt(24)) {
      case 0: return x.type(r.nextLong(), any(r));
      case 1: case 2: case 3: return x.type(0x6162632064656661L + r.nextInt(20), small(r) * 2);
      case 4: return r.nextInt(20) == 0 ? x.begin() : x.length(any(r));
      case 5: return x.told(small(r), any(r), small(r));
      case 6: return x.place(small(r), any(r), small(r));
      case 7: return x.put(small(r), small(r));
      case 8: return x.put(any(r), any(r));
      case 9: return x.strike(small(r), any(r), any(r));
      case 10: return x.shape(small(r), any(r), any(r), any(r));
      case 11: return x.remark(small(r), any(r), any(r));
      case 12: return x.move(small(r), any(r), any(r), any(r));
      case 13: return x.move(small(r), small(r), small(r), small(r));
      case 14: return x.settle(any(r), r.nextBoolean());
      case 15: return x.cut(any(r), small(r));
      case 16: return x.change(any(r), small(r));
      case 17: return x.span(any(r), small(r), r.nextBoolean());
      case 18: return x.look(any(r), any(r));
      case 19: return x.clash(any(r), any(r));
      case 20: return x.clashes();
      case 21: return x.compare(small(r));
      case 22: return x.clean();
      default: return x.count(any(r));
    }
  }
}
