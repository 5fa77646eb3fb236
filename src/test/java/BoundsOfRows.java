/** Promises 29 to 35 at their bounds: the row, evenings by lot, the image, counts. */
final class BoundsOfRows {
  private static final String ALONE = "g00110;";
  private static final String LIKED = "g00010;g00110;";

  private final Sentences s;

  BoundsOfRows(Sentences sentences) {
    s = sentences;
  }

  void run() {
    row();
    fullRow();
    judgedByNone();
    judgedAtEnds();
    judgedThenNone();
    clear();
    lots();
    seeds();
    draws();
    drawsGoOn();
    emptyImage();
    whatIsInTheImage();
    whatIsNotInTheImage();
    imageAgain();
    counts();
    countOfRefusals();
  }

  private void row() {
    s.of(29, "A number more of the ROW (0 .. 99): how many.");
    for (int v = 0; v <= 99; v++) {
      CorkageOnRemarks x = new CorkageOnRemarks();
      s.is("row(" + v + ")", x.row(v), 1);
    }
    s.of(29, "-4; -6 (99; 12, too).");
    CorkageOnRemarks x = new CorkageOnRemarks();
    s.is("row(-1)", x.row(-1), -4);
    s.is("row(100)", x.row(100), -6);
    s.is("in the row", x.count(6), 0);
  }

  private void fullRow() {
    s.of(29, "-4; -6 (99; 12, too).");
    CorkageOnRemarks x = Check.at(ALONE + "rr00000;");
    for (int i = 1; i <= 12; i++) {
      s.is("number " + i, x.row(i < 12 ? 1 : 99), i);
    }
    s.is("the thirteenth", x.row(1), -6);
    s.is("above 99 and no room", x.row(100), -6);
    s.is("below 0 ahead of no room", x.row(-1), -4);
    s.is("in the row", x.count(6), 12);
    s.is("the twelve are as they came", x.judge(), 11);
    s.is("there is room again", x.row(1), 1);
  }

  private void judgedByNone() {
    s.of(30, "the first that is not so; -9");
    s.is("no number, nobody", new CorkageOnRemarks().judge(), -9);
    s.is("no number", Check.at(ALONE + "rr00000;").judge(), -9);
    CorkageOnRemarks x = new CorkageOnRemarks();
    Check.rows(x, 0, 0, 0, 0, 0, 0, 0, 0, 0, 0, 0, 0);
    s.is("twelve that are so", x.judge(), -9);
  }

  private int judged(String table, int... numbers) {
    CorkageOnRemarks x = Check.at(table);
    Check.rows(x, numbers);
    return x.judge();
  }

  private void judgedAtEnds() {
    s.of(30, "how many were OPENED by the end of MINUTES 5, 10, ..: the first that is not so");
    s.is("opened in minute 5", judged(ALONE + "rr00004;", 1, 1), -9);
    s.is("opened in minute 6", judged(ALONE + "rr00005;", 0, 1), -9);
    s.is("opened in minute 6 is not by 5", judged(ALONE + "rr00005;", 1), 0);
    s.is("opened in minute 10", judged(ALONE + "rr00009;", 0, 1, 1), -9);
    s.is("opened in minute 60", judged(ALONE + "rr00059;", 0, 0, 0, 0, 0, 0, 0, 0, 0, 0, 0, 1), -9);
    s.is("the twelfth is not so", judged(ALONE + "rr00059;", 0, 0, 0, 0, 0, 0, 0, 0, 0, 0, 0, 0), 11);
    s.is("the first of several", judged(ALONE + "rr00000;", 1, 0, 1, 0), 1);
    s.is("none is so", judged(ALONE + "rr00000;", 0, 99), 0);
    s.is("sent back is opened, too", judged("g00010;g00010;rr00000;", 1), -9);
    s.is("all seven", judged(ALONE + "rr00000;".repeat(7), 5, 7), -9);
  }

  private void judgedThenNone() {
    s.of(30, "(whichever it answers, the ROW has none then)");
    CorkageOnRemarks x = Check.at(ALONE + "rr00000;");
    x.row(1);
    s.is("it is so", x.judge(), -9);
    s.is("in the row", x.count(6), 0);
    x.row(0);
    s.is("it is not so", x.judge(), 0);
    s.is("in the row", x.count(6), 0);
    s.is("none to judge", x.judge(), -9);
  }

  private void clear() {
    s.of(31, "The ROW has none then: how many it had.");
    CorkageOnRemarks x = new CorkageOnRemarks();
    s.is("none", x.clear(), 0);
    for (int i = 1; i <= 12; i++) {
      x.row(0);
    }
    s.is("twelve", x.clear(), 12);
    s.is("in the row", x.count(6), 0);
    s.is("none again", x.clear(), 0);
    s.is("a new first", x.row(5), 1);
    s.is("one", x.clear(), 1);
  }

  private void lots() {
    s.of(32, "n evenings (1 .. 20)");
    CorkageOnRemarks x = Check.at("g00010;g00010;rr00000;");
    for (int n = 1; n <= 20; n++) {
      s.is(n + " evenings: moods", x.lots(n, 5, 0), 20 * n);
      s.is(n + " evenings: sent back", x.lots(n, 5, 1), n);
    }
    s.is("nobody: moods", new CorkageOnRemarks().lots(20, 5, 0), 0);
    s.is("nobody: sent back", new CorkageOnRemarks().lots(20, 5, 1), 0);
    s.is("six at 40: moods", Check.at("g25540;".repeat(6)).lots(20, 5, 0), 4800);
    s.is("no moods are carried on", Check.at(LIKED + "rr00000;").lots(20, 5, 0), 420);
    s.of(32, "-4; -6 20; -2.");
    s.is("0 evenings", x.lots(0, 5, 0), -4);
    s.is("21 evenings", x.lots(21, 5, 0), -6);
    s.is("what 2", x.lots(1, 5, 2), -2);
    s.is("what -1", x.lots(1, 5, -1), -2);
  }

  /** The draw below m that comes from what z has become, in numbers so large that none wraps. */
  private static long draw(long become, int m) {
    return (become & 0x7fffffffL) / 256 % m;
  }

  private static long become(long z) {
    return Math.floorMod(z * 1664525L + 1013904223L, 1L << 32);
  }

  // The crusted one is opened, and sent back, if it is ready by 57 less its figure; so figures 0 to 9 tell the draw.
  private void seed(int z) {
    long ready = draw(become(z), 60);
    for (int figure = 0; figure <= 9; figure++) {
      CorkageOnRemarks x = Check.at("g00010;g00010;rc" + figure + "0000;");
      s.is("seed " + z + ", draw " + ready + ", figure " + figure, x.lots(1, z, 1), ready <= 57 - figure ? 1 : 0);
      s.is("ready stays", x.remark(0, 4), 0);
    }
  }

  private void seeds() {
    s.of(32, "z becomes z times 1664525 and 1013904223 (an int); (z without its sign's bit by 256, cut) modulo m");
    for (int z : new int[] {0, 1, -1, 2, -2, 255, 256, 65535, 1 << 30, -(1 << 30), Integer.MAX_VALUE, Integer.MIN_VALUE,
        Integer.MAX_VALUE - 1, Integer.MIN_VALUE + 1}) {
      seed(z);
    }
    for (int z = 1000; z < 1400; z++) {
      seed(z);
    }
  }

  // By hand: 0 becomes 1013904223, 1196435762, 3519870697 (2147483648 less without its sign's bit), 2868466484 (the same),
  // 1649599747, 2670642822 (the same); by 256 and modulo 60 they are 23, 57, 6, 59, 49 and 50.
  private void draws() {
    s.of(32, "A DRAW below m: z becomes z times 1664525 and 1013904223 (an int)");
    openedLots(0, 1, 2, 3, 3, 4, 5);
    openedLots(1, 1, 1, 2, 2, 3, 4);
    openedLots(7, 1, 1, 2, 2, 3, 4);
    openedLots(8, 1, 1, 2, 2, 3, 3);
    openedLots(9, 1, 1, 2, 2, 2, 2);
  }

  private void openedLots(int figure, int... due) {
    CorkageOnRemarks x = Check.at("g00010;g00010;rc" + figure + "0000;");
    for (int n = 1; n <= due.length; n++) {
      s.is("ready by " + (57 - figure) + " in " + n + " evenings", x.lots(n, 0, 1), due[n - 1]);
    }
  }

  // Each remark has a draw of its own, by numbers, and the next evening goes on where the last one ended.
  private void drawsGoOn() {
    s.of(32, "n evenings (1 .. 20), READY of each REMARK a DRAW below 60");
    for (int seed = -50; seed <= 50; seed++) {
      long z = Math.floorMod((long) seed * 42949672L, 1L << 32);
      CorkageOnRemarks x = Check.at("w3;g00010;g00010;rc90000;rc50100;rd00200;");
      int due = 0;
      int start = (int) z;
      for (int n = 1; n <= 20; n++) {
        for (int last : new int[] {48, 52, 57}) {
          z = become(z);
          due += draw(z, 60) <= last ? 1 : 0;
        }
        s.is(n + " evenings from " + start, x.lots(n, start, 1), due);
      }
    }
  }

  private void emptyImage() {
    s.of(34, "ON from it: how many GUESTS. -3 there is none.");
    CorkageOnRemarks x = new CorkageOnRemarks();
    s.is("no image", x.on(), -3);
    s.is("still none", x.on(), -3);
    s.of(33, "THE IMAGE is taken: how many GUESTS.");
    s.is("of nobody", x.image(), 0);
    Check.tell(x, "g00110;rr00000;w3;c9;");
    s.of(34, "ON from it all is as then");
    s.is("nobody again", x.on(), 0);
    s.is("as new", Check.state(x), "w1 c3 row0 letters0");
  }

  private void whatIsInTheImage() {
    s.of(34, "THE IMAGE: all that there is, but it, the ROW, letters, REFUSALS; ON from it all is as then.");
    String full = "w2;c7;g00100;g00201;g00402;g00838;g01639;g03240;";
    String remarks = "rr00000;rw15101;rd21202;rp34757;rc42658;rh53559;rr94400;";
    CorkageOnRemarks x = Check.at(full, remarks);
    String then = Check.held(x);
    s.is("six", x.image(), 6);
    x.change(0, 5);
    for (int g = 0; g < 6; g++) {
      x.mood(g, 20);
    }
    for (int r = 0; r < 7; r++) {
      x.ready(r, 30);
    }
    x.set(0, 3);
    x.set(1, 0);
    s.is("on", x.on(), 6);
    s.is("all is as then", Check.held(x), then);
  }

  private void whatIsNotInTheImage() {
    s.of(34, "THE IMAGE: all that there is, but it, the ROW, letters, REFUSALS");
    CorkageOnRemarks x = Check.at(ALONE + "rr00000;");
    x.row(1);
    x.letter('w');
    x.guest(9, 0);
    x.image();
    x.row(2);
    x.letter('3');
    x.guest(9, 0);
    x.set(2, 0);
    s.is("on", x.on(), 1);
    s.is("in the row", x.count(6), 2);
    s.is("letters", x.count(7), 2);
    s.is("refusals", Check.refusals(x), "2 1 0 0 0 0");
    x.letter(';');
    s.is("the letters are those that came", x.table(), 1);
    s.is("waiters", x.count(2), 3);
    s.is("the numbers are those that came", x.judge(), 1);
    s.is("on again", x.on(), 1);
    s.is("no letters, no row, as behind it", Check.state(x), "w1 c3 g1/10 r0,0,0,0,0 row0 letters0");
    s.is("refusals", Check.refusals(x), "2 1 0 0 0 0");
  }

  private void imageAgain() {
    s.of(34, "ON from it all is as then");
    CorkageOnRemarks x = Check.at(ALONE);
    x.image();
    x.mood(0, 20);
    s.is("once", x.on(), 1);
    s.is("mood", x.guest(0, 1), 10);
    x.mood(0, 30);
    s.is("twice from the same", x.on(), 1);
    s.is("mood", x.guest(0, 1), 10);
    s.of(33, "THE IMAGE is taken: how many GUESTS.");
    Check.tell(x, "g00240;");
    s.is("another one", x.image(), 2);
    x.mood(0, 0);
    Check.tell(x, "g00000;");
    s.is("on from the latest", x.on(), 2);
    s.is("it is the latest", Check.held(x), "w1 c3 g1/10 g2/40");
  }

  private void counts() {
    s.of(35, "0 GUESTS, 1 REMARKS, 2 WAITERS, 3 CORKAGE, 4 MOODS together now, 5 all PRICES, 6 in the ROW, 7 letters");
    CorkageOnRemarks x = Check.at("w3;c9;" + "g25540;".repeat(6), "rc90059;".repeat(7));
    Check.rows(x, 0, 0, 0, 0, 0, 0, 0, 0, 0, 0, 0, 0);
    for (int i = 0; i < 96; i++) {
      x.letter(255);
    }
    int[] due = {6, 7, 3, 9, 240, 126, 12, 96};
    for (int what = 0; what < due.length; what++) {
      s.is("the most, count(" + what + ")", x.count(what), due[what]);
    }
    x = Check.at("c0;g00000;rr00000;");
    int[] least = {1, 1, 1, 0, 0, 0, 0, 0};
    for (int what = 0; what < least.length; what++) {
      s.is("little, count(" + what + ")", x.count(what), least[what]);
    }
    s.is("moods together are those of now, not of the end", Check.at(LIKED + "rr00000;").count(4), 20);
  }

  private void countOfRefusals() {
    s.of(35, "11 .. 16 REFUSALS -1 .. -6. -9 for another what.");
    CorkageOnRemarks x = new CorkageOnRemarks();
    for (int what : new int[] {8, 9, 10, 17, 18, -1, -9, -11, Integer.MIN_VALUE, Integer.MAX_VALUE}) {
      s.is("count(" + what + ")", x.count(what), -9);
    }
    s.is("-9 is no refusal", Check.refusals(x), "0 0 0 0 0 0");
    for (int i = 1; i <= 70; i++) {
      x.guest(0, 0);
      x.sums(5);
      x.on();
      x.row(-1);
      x.row(100);
      s.is("none is told as -5", x.count(15), 0);
    }
    s.is("seventy each", Check.refusals(x), "70 70 70 70 0 70");
    x.without(0);
    x.odds(2, 0, 2);
    s.is("of without() and longs, too", Check.refusals(x), "71 71 70 70 0 70");
  }
}
