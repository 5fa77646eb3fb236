import java.math.BigInteger;
import java.util.ArrayList;
import java.util.HashMap;
import java.util.List;
import java.util.Map;
import java.util.TreeSet;

/** The document once more, in another way and without thrift, to compare the class with. */
final class PlainTable {
  static final class Guest {
    int likes;
    int mood;
  }

  static final class Remark {
    char kind;
    int figure;
    Guest bringer;
    int topic;
    int ready;
  }

  List<Guest> guests = new ArrayList<>();
  List<Remark> remarks = new ArrayList<>();
  int waiters = 1;
  int corkage = 3;

  PlainTable copy() {
    PlainTable t = new PlainTable();
    Map<Guest, Guest> twins = new HashMap<>();
    for (Guest g : guests) {
      Guest h = new Guest();
      h.likes = g.likes;
      h.mood = g.mood;
      twins.put(g, h);
      t.guests.add(h);
    }
    for (Remark r : remarks) {
      Remark s = new Remark();
      s.kind = r.kind;
      s.figure = r.figure;
      s.bringer = twins.get(r.bringer);
      s.topic = r.topic;
      s.ready = r.ready;
      t.remarks.add(s);
    }
    t.waiters = waiters;
    t.corkage = corkage;
    return t;
  }

  // ---- telling

  private static final String[] SHAPES = {"g#####;", "rK#####;", "w#;", "c#;", "x##;", "m###;"};

  private static boolean fits(char shape, char sign) {
    return shape == '#' ? sign >= '0' && sign <= '9' : shape == 'K' ? "rwdpch".indexOf(sign) >= 0 : shape == sign;
  }

  /** The fault of the first kind, or null. */
  private static Integer stray(String text) {
    int place = 0;
    do {
      int furthest = place;
      String whole = null;
      for (String shape : SHAPES) {
        int k = 0;
        while (k < shape.length() && place + k < text.length() && fits(shape.charAt(k), text.charAt(place + k))) {
          k++;
        }
        furthest = Math.max(furthest, place + k);
        whole = k == shape.length() ? shape : whole;
      }
      if (whole == null) {
        return furthest;
      }
      place += whole.length();
    } while (place < text.length());
    return null;
  }

  private boolean obey(String s) {
    int[] d = new int[s.length()];
    for (int i = 0; i < d.length; i++) {
      d[i] = s.charAt(i) - '0';
    }
    switch (s.charAt(0)) {
      case 'g': {
        Guest g = new Guest();
        g.likes = Integer.parseInt(s.substring(1, 4));
        g.mood = Integer.parseInt(s.substring(4, 6));
        guests.add(g);
        return g.likes < 256 && g.mood < 41 && guests.size() <= 6;
      }
      case 'r': {
        if (d[3] >= guests.size()) {
          return false;
        }
        Remark r = new Remark();
        r.kind = s.charAt(1);
        r.figure = d[2];
        r.bringer = guests.get(d[3]);
        r.topic = d[4];
        r.ready = Integer.parseInt(s.substring(5, 7));
        remarks.add(r);
        return r.topic < 8 && r.ready < 60 && remarks.size() <= 7;
      }
      case 'w':
        waiters = d[1];
        return waiters == 1 || waiters == 2 || waiters == 3;
      case 'c':
        corkage = d[1];
        return true;
      case 'x':
        if (d[1] >= guests.size() || d[2] >= guests.size() || d[1] == d[2]) {
          return false;
        }
        change(d[1], d[2]);
        return true;
      default:
        if (d[1] >= guests.size()) {
          return false;
        }
        guests.get(d[1]).mood = Integer.parseInt(s.substring(2, 4));
        return guests.get(d[1]).mood < 41;
    }
  }

  int tell(String text) {
    Integer stray = stray(text);
    if (stray != null) {
      return -1000 - stray;
    }
    PlainTable trial = copy();
    int place = 0;
    String[] statements = text.split(";");
    for (String s : statements) {
      if (!trial.obey(s)) {
        return -2000 - place;
      }
      place += s.length() + 1;
    }
    guests = trial.guests;
    remarks = trial.remarks;
    waiters = trial.waiters;
    corkage = trial.corkage;
    return statements.length;
  }

  // A guest keeps what is his; only the list is in another order.
  void change(int one, int other) {
    Guest g = guests.get(one);
    guests.set(one, guests.get(other));
    guests.set(other, g);
  }

  // ---- kinds

  static int minutes(Remark r) {
    return "rwh".indexOf(r.kind) >= 0 ? 1 : r.kind == 'p' ? 2 : r.kind == 'd' ? 3 : 3 + r.figure;
  }

  static int more(Remark r) {
    return r.kind == 'p' ? r.figure : "120021".charAt("rwdpch".indexOf(r.kind)) - '0';
  }

  static int less(Remark r) {
    return r.kind == 'p' ? r.figure : "001011".charAt("rwdpch".indexOf(r.kind)) - '0';
  }

  int price(Remark r) {
    return r.kind == 'h' ? r.figure : r.kind == 'w' ? corkage / 2 : "dc".indexOf(r.kind) >= 0 ? 2 * corkage : corkage;
  }

  List<Guest> hearers(Remark r) {
    List<Guest> heard = new ArrayList<>(guests);
    if (r.kind == 'p') {
      heard.clear();
      heard.add(guests.get((guests.indexOf(r.bringer) + 1) % guests.size()));
    }
    heard.remove(r.bringer);
    return heard;
  }

  int hearerBits(Remark r) {
    int bits = 0;
    for (Guest g : hearers(r)) {
      bits += 1 << guests.indexOf(g);
    }
    return bits;
  }

  // ---- an evening

  final class Evening {
    int[] taken = new int[remarks.size()];
    int[] opened = new int[remarks.size()];
    boolean[] back = new boolean[remarks.size()];
    int[][] mood = new int[61][guests.size()];
    int someBusy;
    int allBusy;

    Evening(int left) {
      int[] free = new int[waiters];
      int[] holds = new int[waiters];
      java.util.Arrays.fill(holds, -1);
      java.util.Arrays.fill(taken, -9);
      java.util.Arrays.fill(opened, -9);
      int[] m = new int[guests.size()];
      for (int g = 0; g < m.length; g++) {
        m[g] = guests.get(g).mood;
      }
      for (int minute = 0; minute <= 60; minute++) {
        TreeSet<Integer> done = new TreeSet<>();
        for (int w = 0; w < waiters; w++) {
          if (holds[w] >= 0 && free[w] == minute) {
            done.add(holds[w]);
            holds[w] = -1;
          }
        }
        for (int i : done) {
          opened[i] = minute;
          hear(i, m);
        }
        mood[minute] = m.clone();
        if (minute == 60) {
          break;
        }
        int busy = 0;
        for (int w = 0; w < waiters; w++) {
          int i = holds[w] < 0 ? first(minute, left) : -1;
          if (i >= 0) {
            holds[w] = i;
            taken[i] = minute;
            free[w] = minute + minutes(remarks.get(i));
          }
          busy += holds[w] >= 0 ? 1 : 0;
        }
        someBusy += busy > 0 ? 1 : 0;
        allBusy += busy == waiters ? 1 : 0;
      }
    }

    private int first(int minute, int left) {
      for (int ready = 0; ready <= minute; ready++) {
        for (int i = 0; i < remarks.size(); i++) {
          if (remarks.get(i).ready == ready && taken[i] < 0 && (left & 1 << i) == 0) {
            return i;
          }
        }
      }
      return -1;
    }

    private void hear(int i, int[] m) {
      Remark r = remarks.get(i);
      int balance = 0;
      for (Guest g : hearers(r)) {
        balance += (g.likes & 1 << r.topic) != 0 ? 1 : -1;
      }
      back[i] = balance < 0;
      if (back[i]) {
        return;
      }
      for (Guest g : hearers(r)) {
        int at = guests.indexOf(g);
        m[at] += (g.likes & 1 << r.topic) != 0 ? more(r) : -less(r);
        m[at] = m[at] < 0 ? 0 : m[at] > 40 ? 40 : m[at];
      }
    }

    int moods() {
      int sum = 0;
      for (int m : mood[60]) {
        sum += m;
      }
      return sum;
    }

    int bill(int guest) {
      int sum = 0;
      for (int i = 0; i < opened.length; i++) {
        sum += opened[i] >= 0 && remarks.get(i).bringer == guests.get(guest) ? price(remarks.get(i)) : 0;
      }
      return sum;
    }

    int openedBy(int minute) {
      int n = 0;
      for (int o : opened) {
        n += o >= 0 && o <= minute ? 1 : 0;
      }
      return n;
    }

    int backs() {
      int n = 0;
      for (boolean b : back) {
        n += b ? 1 : 0;
      }
      return n;
    }

    int sum(int what) {
      int bill = 0;
      int last = -9;
      for (int i = 0; i < opened.length; i++) {
        bill += opened[i] >= 0 ? price(remarks.get(i)) : 0;
        last = opened[i] > last ? opened[i] : last;
      }
      return new int[] {moods(), bill, openedBy(60), backs(), last}[what];
    }

    /** {length, first minute} of the longest silence. */
    int[] silence() {
      int[] best = {0, -9};
      for (int from = 0; from <= 60; from++) {
        for (int to = from; to <= 60; to++) {
          boolean quiet = true;
          for (int o : opened) {
            quiet &= o < from || o > to;
          }
          if (quiet && to - from + 1 > best[0]) {
            best = new int[] {to - from + 1, from};
          }
        }
      }
      return best;
    }
  }

  Evening evening() {
    return new Evening(0);
  }

  private int moods() {
    return evening().moods();
  }

  // ---- what would be

  int bestMinute(int remark) {
    PlainTable t = copy();
    int[] moods = new int[60];
    int most = 0;
    for (int v = 0; v < 60; v++) {
      t.remarks.get(remark).ready = v;
      moods[v] = t.moods();
      most = Math.max(most, moods[v]);
    }
    int v = 0;
    while (moods[v] != most) {
      v++;
    }
    return v;
  }

  int enough() {
    PlainTable t = copy();
    for (t.waiters = 1; t.waiters <= 3; t.waiters++) {
      if (t.evening().openedBy(60) == remarks.size()) {
        return t.waiters;
      }
    }
    return -9;
  }

  int swap() {
    int best = -9;
    int most = moods();
    for (int pair = 0; pair < 60; pair++) {
      int a = pair / 10;
      int b = pair % 10;
      if (a < b && b < guests.size()) {
        PlainTable t = copy();
        t.change(a, b);
        if (t.moods() > most) {
          most = t.moods();
          best = pair;
        }
      }
    }
    return best;
  }

  int fit() {
    int best = -9;
    int most = moods();
    for (int pair = 0; pair < 70; pair++) {
      int r = pair / 10;
      int g = pair % 10;
      if (r < remarks.size() && g < guests.size() && remarks.get(r).bringer != guests.get(g)) {
        PlainTable t = copy();
        t.remarks.get(r).bringer = t.guests.get(g);
        if (t.moods() > most) {
          most = t.moods();
          best = pair;
        }
      }
    }
    return best;
  }

  int spare() {
    for (int size = 0; size <= 7; size++) {
      for (int left = 0; left < 1 << remarks.size(); left++) {
        if (Integer.bitCount(left) == size && new Evening(left).backs() == 0) {
          return left;
        }
      }
    }
    throw new IllegalStateException();
  }

  int cold() {
    int most = 0;
    for (int left = 0; left < 1 << remarks.size(); left++) {
      most = Math.max(most, new Evening(left).moods());
    }
    for (int size = 0; size <= 7; size++) {
      for (int left = 0; left < 1 << remarks.size(); left++) {
        if (Integer.bitCount(left) == size && new Evening(left).moods() == most) {
          return left;
        }
      }
    }
    throw new IllegalStateException();
  }

  int who(int guest, int remark, int what, List<Integer> row) {
    int bits = 0;
    for (int i = 0; i < (what == 0 ? 6 : 8); i++) {
      PlainTable t = copy();
      if (what == 0) {
        t.remarks.get(remark).kind = "rwdpch".charAt(i);
      } else {
        t.remarks.get(remark).topic = i;
      }
      Evening e = t.evening();
      boolean all = true;
      for (int minute = 0; minute < row.size(); minute++) {
        all &= e.mood[minute][guest] == row.get(minute);
      }
      bits += all ? 1 << i : 0;
    }
    return bits;
  }

  private int worth(int guest, int a, boolean bringsA, int b, boolean bringsB) {
    int left = 0;
    for (int i = 0; i < remarks.size(); i++) {
      Guest g = remarks.get(i).bringer;
      left += (g == guests.get(a) && !bringsA) || (g == guests.get(b) && !bringsB) ? 1 << i : 0;
    }
    Evening e = new Evening(left);
    return e.mood[60][guest] - e.bill(guest);
  }

  int haggle(int a, int b) {
    for (int pair : new int[] {0, 1, 10, 11}) {
      boolean bringsA = pair < 10;
      boolean bringsB = pair % 10 == 0;
      if (worth(a, a, bringsA, b, bringsB) >= worth(a, a, !bringsA, b, bringsB)
          && worth(b, a, bringsA, b, bringsB) >= worth(b, a, bringsA, b, !bringsB)) {
        return pair;
      }
    }
    return -9;
  }

  int payments() {
    int n = guests.size();
    Evening e = evening();
    int[] over = new int[n];
    int rest = e.sum(1);
    for (int g = 0; g < n; g++) {
      over[g] = e.bill(g) - e.sum(1) / n;
      rest -= e.sum(1) / n;
    }
    for (int g = 0; g < n && rest > 0; g++, rest--) {
      over[g]--;
    }
    return settle(over, 0);
  }

  // Every way in which the first who is not even pays, or is paid by, somebody of the other sign.
  private static int settle(int[] over, int from) {
    if (from == over.length) {
      return 0;
    }
    if (over[from] == 0) {
      return settle(over, from + 1);
    }
    int best = 99;
    for (int k = from + 1; k < over.length; k++) {
      if (Integer.signum(over[k]) == -Integer.signum(over[from])) {
        over[k] += over[from];
        best = Math.min(best, 1 + settle(over, from + 1));
        over[k] -= over[from];
      }
    }
    return best;
  }

  BigInteger[] odds(int t, int v) {
    BigInteger above = BigInteger.ZERO;
    BigInteger below = BigInteger.valueOf(t).pow(remarks.size());
    for (int left = 0; left < 1 << remarks.size(); left++) {
      if (new Evening(left).moods() >= v) {
        above = above.add(BigInteger.valueOf(t - 1).pow(remarks.size() - Integer.bitCount(left)));
      }
    }
    BigInteger common = above.gcd(below);
    return new BigInteger[] {above.divide(common), below.divide(common)};
  }

  int judge(List<Integer> row) {
    Evening e = evening();
    for (int i = 0; i < row.size(); i++) {
      if (e.openedBy(5 * i + 5) != row.get(i)) {
        return i;
      }
    }
    return -9;
  }

  int lots(int n, int seed, int what) {
    PlainTable t = copy();
    BigInteger two32 = BigInteger.ONE.shiftLeft(32);
    BigInteger z = BigInteger.valueOf(seed).mod(two32);
    int sum = 0;
    for (int i = 0; i < n; i++) {
      for (Remark r : t.remarks) {
        z = z.multiply(BigInteger.valueOf(1664525)).add(BigInteger.valueOf(1013904223)).mod(two32);
        r.ready = z.clearBit(31).divide(BigInteger.valueOf(256)).mod(BigInteger.valueOf(60)).intValue();
      }
      sum += what == 0 ? t.evening().moods() : t.evening().backs();
    }
    return sum;
  }

  int could(int what) {
    int most = 0;
    int bits = 0;
    for (int topic = 0; topic < 8; topic++) {
      int n = 0;
      for (Guest g : guests) {
        n += g.likes >> topic & 1;
      }
      if (n > most) {
        most = n;
        bits = 0;
      }
      bits += n == most ? 1 << topic : 0;
    }
    return what == 0 ? bits : most;
  }

  int dear() {
    int best = -9;
    for (int i = remarks.size() - 1; i >= 0; i--) {
      best = best < 0 || price(remarks.get(i)) >= price(remarks.get(best)) ? i : best;
    }
    return best;
  }
}
