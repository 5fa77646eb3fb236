import java.util.Random;

/** Calls of all kinds with any numbers, in any state: none throws, each refusal is counted, twins answer alike. */
public final class WildTest {
  private static final Check CHECK = new Check();
  private static final Random LOT = new Random(2);
  private static final int[] EDGES = {Integer.MIN_VALUE, Integer.MIN_VALUE + 1, -1000, -10, -9, -1, 0, 1, 2, 3, 5, 6, 7,
      8, 9, 10, 12, 20, 21, 39, 40, 41, 59, 60, 61, 96, 99, 100, 240, 241, 255, 256, 1000, Integer.MAX_VALUE};
  private static final int METHODS = 34;

  public static void main(String[] args) {
    for (int i = 0; i < 300; i++) {
      CorkageOnRemarks one = new CorkageOnRemarks();
      CorkageOnRemarks twin = new CorkageOnRemarks();
      int[] refusals = new int[7];
      for (int k = 0; k < 250; k++) {
        step(one, twin, refusals);
      }
      CHECK.same("twins hold", Check.state(one), Check.state(twin));
    }
    CHECK.end("WildTest");
  }

  private static int number() {
    return LOT.nextInt(8) == 0 ? EDGES[LOT.nextInt(EDGES.length)] : LOT.nextInt(4) == 0 ? LOT.nextInt(70) : LOT.nextInt(7);
  }

  private static void step(CorkageOnRemarks one, CorkageOnRemarks twin, int[] refusals) {
    int method = LOT.nextInt(METHODS + 8);
    if (method >= METHODS) {
      String text = text();
      CHECK.same("twins' table", Check.tell(one, text), Check.tell(twin, text));
      check(one, refusals, "table " + text, 0);
      return;
    }
    int a = number();
    int b = number();
    int c = number();
    String call = method + "(" + a + ", " + b + ", " + c + ")";
    String before = Check.state(one);
    long answer = call(one, method, a, b, c);
    CHECK.same("twins' " + call, call(twin, method, a, b, c), answer);
    int refusal = refusalOf(method, answer);
    check(one, refusals, call, refusal);
    if (refusal != 0) {
      CHECK.same("refused " + call, Check.state(one), before);
    }
  }

  private static void check(CorkageOnRemarks x, int[] refusals, String call, int refusal) {
    if (refusal != 0) {
      refusals[refusal]++;
    }
    for (int i = 1; i <= 6; i++) {
      CHECK.same("refusals -" + i + " behind " + call, x.count(10 + i), refusals[i]);
    }
  }

  /** 1 to 6, or 0 where the answer is none. */
  private static int refusalOf(int method, long answer) {
    if (method == 1) {
      return 0;
    }
    long number = method == 12 ? answer - 1000000000L : method == 26 ? answer - 4000000000000000000L : -answer;
    return number >= 1 && number <= 6 ? (int) number : 0;
  }

  private static long call(CorkageOnRemarks x, int method, int a, int b, int c) {
    switch (method) {
      case 0: return x.letter(a);
      case 1: return x.table();
      case 2: return x.guest(a, b);
      case 3: return x.remark(a, b);
      case 4: return x.ready(a, b);
      case 5: return x.mood(a, b);
      case 6: return x.change(a, b);
      case 7: return x.set(a, b);
      case 8: return x.sums(a);
      case 9: return x.of(a, b);
      case 10: return x.moodAt(a, b);
      case 11: return x.bill(a);
      case 12: return x.without(a);
      case 13: return x.bestMinute(a);
      case 14: return x.enough();
      case 15: return x.swap();
      case 16: return x.fit();
      case 17: return x.could(a);
      case 18: return x.dear();
      case 19: return x.spare(a);
      case 20: return x.cold();
      case 21: return x.silence(a);
      case 22: return x.busy(a);
      case 23: return x.who(a, b, c);
      case 24: return x.haggle(a, b);
      case 25: return x.payments();
      case 26: return x.odds(a, b, c);
      case 27: return x.row(a);
      case 28: return x.judge();
      case 29: return x.clear();
      case 30: return x.lots(a, b, c);
      case 31: return x.image();
      case 32: return x.on();
      default: return x.count(a);
    }
  }

  private static String text() {
    String[] parts = {"g00310;", "g25540;", "rr00005;", "rw11105;", "rd20059;", "rp91000;", "rc90050;", "rh30158;", "w3;",
        "c9;", "x01;", "m140;", "x00;", "w", "rr", "g999"};
    StringBuilder s = new StringBuilder();
    for (int n = 1 + LOT.nextInt(4); n > 0; n--) {
      s.append(parts[LOT.nextInt(LOT.nextInt(6) == 0 ? parts.length : 12)]);
    }
    return s.toString();
  }
}
