/** Every refusal of every promise: its number, the first that fits, and that it changes nothing but its own count. */
final class BoundsOfRefusals {
  private static final String TWO = "g00110;g00220;rr00005;rd01010;";
  private static final int MIN = Integer.MIN_VALUE;
  private static final int MAX = Integer.MAX_VALUE;
  private static final int NOBODY = -1;
  private static final int OTHER = -2;
  private static final int STATE = -3;
  private static final int BELOW = -4;
  private static final int ROOM = -6;

  private final Sentences s;

  BoundsOfRefusals(Sentences sentences) {
    s = sentences;
  }

  void run() {
    letter();
    guest();
    remark();
    ready();
    mood();
    change();
    set();
    whatAlone();
    of();
    moodAt();
    bill();
    without();
    bestMinute();
    who();
    haggle();
    odds();
    row();
    lots();
    on();
    neverRefused();
    manyCalls();
  }

  private void letter() {
    s.of(2, "-4; -6 (255; 96, too).");
    for (int c : new int[] {-1, MIN}) {
      s.refuses("letter(" + c + ")", x -> x.letter(c), BELOW, TWO);
    }
    for (int c : new int[] {256, MAX}) {
      s.refuses("letter(" + c + ")", x -> x.letter(c), ROOM, TWO);
    }
  }

  private void guest() {
    s.of(4, "Of a GUEST: LIKES (what 0), MOOD (1). -1; -2.");
    for (int g : new int[] {-1, 2, MIN, MAX}) {
      s.refuses("guest(" + g + ", 0)", x -> x.guest(g, 0), NOBODY, TWO);
      s.refuses("guest(" + g + ", 2), the first that fits", x -> x.guest(g, 2), NOBODY, TWO);
    }
    for (int what : new int[] {-1, 2, MIN, MAX}) {
      s.refuses("guest(1, " + what + ")", x -> x.guest(1, what), OTHER, TWO);
    }
  }

  private void remark() {
    s.of(5, "7 who hears (bits). -1; -2.");
    for (int r : new int[] {-1, 2, MIN, MAX}) {
      s.refuses("remark(" + r + ", 0)", x -> x.remark(r, 0), NOBODY, TWO);
      s.refuses("remark(" + r + ", 8), the first that fits", x -> x.remark(r, 8), NOBODY, TWO);
    }
    for (int what : new int[] {-1, 8, MIN, MAX}) {
      s.refuses("remark(1, " + what + ")", x -> x.remark(1, what), OTHER, TWO);
    }
  }

  private void ready() {
    s.of(6, "READY becomes v: what it was. -1; -4; -6 59.");
    for (int r : new int[] {-1, 2, MIN, MAX}) {
      for (int v : new int[] {0, -1, 60}) {
        s.refuses("ready(" + r + ", " + v + ")", x -> x.ready(r, v), NOBODY, TWO);
      }
    }
    for (int v : new int[] {-1, MIN}) {
      s.refuses("ready(1, " + v + ")", x -> x.ready(1, v), BELOW, TWO);
    }
    for (int v : new int[] {60, MAX}) {
      s.refuses("ready(1, " + v + ")", x -> x.ready(1, v), ROOM, TWO);
    }
  }

  private void mood() {
    s.of(7, "MOOD becomes v: what it was. -1; -4; -6 40.");
    for (int g : new int[] {-1, 2, MIN, MAX}) {
      for (int v : new int[] {0, -1, 41}) {
        s.refuses("mood(" + g + ", " + v + ")", x -> x.mood(g, v), NOBODY, TWO);
      }
    }
    for (int v : new int[] {-1, MIN}) {
      s.refuses("mood(1, " + v + ")", x -> x.mood(1, v), BELOW, TWO);
    }
    for (int v : new int[] {41, MAX}) {
      s.refuses("mood(1, " + v + ")", x -> x.mood(1, v), ROOM, TWO);
    }
  }

  private void change() {
    s.of(8, "-1 either (one twice, too).");
    int[][] pairs = {{0, 0}, {1, 1}, {0, 2}, {2, 0}, {-1, 0}, {0, -1}, {2, 2}, {-1, -1}, {MIN, 0}, {0, MAX}};
    for (int[] p : pairs) {
      s.refuses("change(" + p[0] + ", " + p[1] + ")", x -> x.change(p[0], p[1]), NOBODY, TWO);
    }
  }

  private void set() {
    s.of(9, "-2; -4 (1; 0); -6 (3; 9).");
    for (int what : new int[] {-1, 2, MIN, MAX}) {
      for (int v : new int[] {1, -1, 99}) {
        s.refuses("set(" + what + ", " + v + ")", x -> x.set(what, v), OTHER, TWO);
      }
    }
    int[][] below = {{0, 0}, {0, -1}, {0, MIN}, {1, -1}, {1, MIN}};
    for (int[] b : below) {
      s.refuses("set(" + b[0] + ", " + b[1] + ")", x -> x.set(b[0], b[1]), BELOW, TWO);
    }
    int[][] above = {{0, 4}, {0, MAX}, {1, 10}, {1, MAX}};
    for (int[] a : above) {
      s.refuses("set(" + a[0] + ", " + a[1] + ")", x -> x.set(a[0], a[1]), ROOM, TWO);
    }
  }

  private void whatAlone() {
    for (int what : new int[] {-1, 2, MIN, MAX}) {
      s.of(19, "ALL COULD HAVE: TOPICS (what 0), how many (1). -2.");
      s.refuses("could(" + what + ")", x -> x.could(what), OTHER, TWO);
      s.of(21, "SPARE: bits (what 0), how many (1). -2.");
      s.refuses("spare(" + what + ")", x -> x.spare(what), OTHER, TWO);
      s.of(23, "SILENCE: how long (what 0), from which MINUTE (1; -9 none). -2.");
      s.refuses("silence(" + what + ")", x -> x.silence(what), OTHER, TWO);
      s.of(24, "BUSY: some (what 0), all (1). -2.");
      s.refuses("busy(" + what + ")", x -> x.busy(what), OTHER, TWO);
    }
    s.of(10, "Of an EVENING: 0 .. 4 as told. -2.");
    for (int what : new int[] {-1, 5, MIN, MAX}) {
      s.refuses("sums(" + what + ")", x -> x.sums(what), OTHER, TWO);
    }
  }

  private void of() {
    s.of(11, "Of a REMARK: 0 .. 2 as told. -1; -2.");
    for (int r : new int[] {-1, 2, MIN, MAX}) {
      s.refuses("of(" + r + ", 0)", x -> x.of(r, 0), NOBODY, TWO);
      s.refuses("of(" + r + ", 3), the first that fits", x -> x.of(r, 3), NOBODY, TWO);
    }
    for (int what : new int[] {-1, 3, MIN, MAX}) {
      s.refuses("of(1, " + what + ")", x -> x.of(1, what), OTHER, TWO);
    }
  }

  private void moodAt() {
    s.of(12, "MOOD behind a MINUTE (0 .. 60). -1; -4; -6 60.");
    for (int g : new int[] {-1, 2, MIN, MAX}) {
      for (int minute : new int[] {0, -1, 61}) {
        s.refuses("moodAt(" + g + ", " + minute + ")", x -> x.moodAt(g, minute), NOBODY, TWO);
      }
    }
    for (int minute : new int[] {-1, MIN}) {
      s.refuses("moodAt(1, " + minute + ")", x -> x.moodAt(1, minute), BELOW, TWO);
    }
    for (int minute : new int[] {61, MAX}) {
      s.refuses("moodAt(1, " + minute + ")", x -> x.moodAt(1, minute), ROOM, TWO);
    }
  }

  private void bill() {
    s.of(13, "His BILL. -1.");
    for (int g : new int[] {-1, 2, MIN, MAX}) {
      s.refuses("bill(" + g + ")", x -> x.bill(g), NOBODY, TWO);
    }
  }

  private void without() {
    s.of(14, "Of without() REFUSALS are 1000000000 less them (-1 is told as 1000000001)");
    for (int r : new int[] {-1, 2, MIN, MAX}) {
      s.refuses("without(" + r + ")", x -> x.without(r), NOBODY, 1000000001, TWO);
    }
    s.refuses("without(0) of none", x -> x.without(0), NOBODY, 1000000001);
  }

  private void bestMinute() {
    s.of(15, "BEST MINUTE. -1.");
    for (int r : new int[] {-1, 2, MIN, MAX}) {
      s.refuses("bestMinute(" + r + ")", x -> x.bestMinute(r), NOBODY, TWO);
    }
  }

  private void who() {
    s.of(25, "WHO by the ROW (it stays): KINDS (what 0, bits), TOPICS (1, bits). -1 either; -2.");
    for (int v : new int[] {-1, 2, MIN, MAX}) {
      s.refuses("who(" + v + ", 0, 0)", x -> x.who(v, 0, 0), NOBODY, TWO);
      s.refuses("who(0, " + v + ", 0)", x -> x.who(0, v, 0), NOBODY, TWO);
      s.refuses("who(" + v + ", 0, 2), the first that fits", x -> x.who(v, 0, 2), NOBODY, TWO);
      s.refuses("who(0, " + v + ", -1), the first that fits", x -> x.who(0, v, -1), NOBODY, TWO);
      s.refuses("who(1, 1, " + v + ")", x -> x.who(1, 1, v), OTHER, TWO);
    }
  }

  private void haggle() {
    s.of(26, "HAGGLE; -9. -1 either (one twice, too).");
    int[][] pairs = {{0, 0}, {1, 1}, {0, 2}, {2, 0}, {-1, 0}, {0, -1}, {2, 2}, {-1, -1}, {MIN, 0}, {0, MAX}};
    for (int[] p : pairs) {
      s.refuses("haggle(" + p[0] + ", " + p[1] + ")", x -> x.haggle(p[0], p[1]), NOBODY, TWO);
    }
  }

  private void odds(int t, int v, int part, int refusal) {
    String call = "odds(" + t + ", " + v + ", " + part + ")";
    s.refuses(call, x -> x.odds(t, v, part), refusal, 4000000000000000000L - refusal, TWO);
  }

  private void odds() {
    s.of(28, "-4 (t below 2; v); -6 (20; 240); -2.");
    int[][] below = {{1, 0, 0}, {0, 0, 0}, {MIN, 0, 0}, {2, -1, 0}, {2, MIN, 1}, {1, 241, 0}, {21, -1, 0}, {1, 0, 2},
        {2, -1, -1}, {MAX, MIN, MAX}};
    for (int[] b : below) {
      odds(b[0], b[1], b[2], BELOW);
    }
    int[][] above = {{21, 0, 0}, {MAX, 0, 0}, {2, 241, 0}, {2, MAX, 1}, {21, 0, 2}, {20, 241, -1}};
    for (int[] a : above) {
      odds(a[0], a[1], a[2], ROOM);
    }
    for (int part : new int[] {-1, 2, MIN, MAX}) {
      odds(2, 0, part, OTHER);
      odds(20, 240, part, OTHER);
    }
  }

  private void row() {
    s.of(29, "-4; -6 (99; 12, too).");
    for (int v : new int[] {-1, MIN}) {
      s.refuses("row(" + v + ")", x -> x.row(v), BELOW, TWO);
    }
    for (int v : new int[] {100, MAX}) {
      s.refuses("row(" + v + ")", x -> x.row(v), ROOM, TWO);
    }
  }

  private void lots() {
    s.of(32, "LOTS: MOODS (what 0), SENT BACK (1). -4; -6 20; -2.");
    for (int what : new int[] {0, 2}) {
      for (int n : new int[] {0, -1, MIN}) {
        s.refuses("lots(" + n + ", 0, " + what + ")", x -> x.lots(n, 0, what), BELOW, TWO);
      }
      for (int n : new int[] {21, MAX}) {
        s.refuses("lots(" + n + ", 0, " + what + ")", x -> x.lots(n, 0, what), ROOM, TWO);
      }
    }
    for (int what : new int[] {-1, 2, MIN, MAX}) {
      s.refuses("lots(20, 0, " + what + ")", x -> x.lots(20, 0, what), OTHER, TWO);
    }
  }

  private void on() {
    s.of(34, "ON from it: how many GUESTS. -3 there is none.");
    CorkageOnRemarks x = Check.at(TWO);
    x.row(3);
    x.letter('w');
    String before = Check.state(x);
    s.is("on() without an image", x.on(), STATE);
    s.is("it changes nothing", Check.state(x), before);
    s.is("refusals", Check.refusals(x), "0 0 1 0 0 0");
  }

  // A fault, a -9, a 0 and a number below 0 of without() are answers.
  private void neverRefused() {
    s.of(35, "nothing changes but how many there were");
    CorkageOnRemarks x = new CorkageOnRemarks();
    x.table();
    Check.tell(x, "w0;");
    x.enough();
    x.swap();
    x.fit();
    x.dear();
    x.cold();
    x.payments();
    x.judge();
    x.clear();
    x.image();
    x.on();
    x.count(99);
    x.sums(4);
    x.lots(1, MIN, 0);
    Check.tell(x, "g00010;g00110;rr00000;rr01059;");
    x.without(0);
    x.of(1, 1);
    s.is("refusals", Check.refusals(x), "0 0 0 0 0 0");
  }

  private void manyCalls() {
    s.of(35, "An object is used for at most 512 calls after it has been made");
    CorkageOnRemarks x = new CorkageOnRemarks();
    for (int i = 1; i <= 510; i++) {
      x.guest(0, 0);
    }
    s.is("the 511th call", x.count(11), 510);
    s.is("the 512th call", x.row(0), 1);
  }
}
