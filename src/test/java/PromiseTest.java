/** Each promise by itself: ordinary inputs, edges, refusals; the answers are worked out by hand. */
public final class PromiseTest {
  // Three guests; of six remarks the third is sent back. Opened at 1, 4, 5, 12, 17 and 60.
  private static final String DINNER = "g00110;g00120;g00230;rr00000;rd02000;rw01200;rp42010;rc20110;rh71059;";

  private static final Check CHECK = new Check();

  public static void main(String[] args) {
    newObject();
    letter();
    table();
    tableFaults();
    guest();
    remark();
    ready();
    mood();
    change();
    set();
    sums();
    evenings();
    of();
    moodAt();
    bill();
    without();
    bestMinute();
    enough();
    swap();
    fit();
    could();
    dear();
    spare();
    cold();
    silence();
    busy();
    who();
    haggle();
    payments();
    odds();
    row();
    judge();
    clear();
    lots();
    image();
    on();
    count();
    anewEachTime();
    CHECK.end("PromiseTest");
  }

  private static void same(String what, long got, long want) {
    CHECK.same(what, got, want);
  }

  private static CorkageOnRemarks at(String text) {
    return Check.at(text);
  }

  /** A refusal adds one to its own count and changes nothing else: taken at both ends of a run of refused calls. */
  private static final class Refused {
    private final String what;
    private final CorkageOnRemarks x;
    private final String before;
    private final int[] counts = new int[7];

    Refused(String what, CorkageOnRemarks x) {
      this.what = what;
      this.x = x;
      before = Check.state(x);
      for (int i = 1; i <= 6; i++) {
        counts[i] = x.count(10 + i);
      }
    }

    void is(long got, int want) {
      same(what, got, want);
      counts[-want]++;
      for (int i = 1; i <= 6; i++) {
        same(what + " refusals " + -i, x.count(10 + i), counts[i]);
      }
      CHECK.same(what + " state", Check.state(x), before);
    }
  }

  private static void newObject() {
    CorkageOnRemarks x = new CorkageOnRemarks();
    CHECK.same("1", Check.state(x), "w1 c3 row0 letters0");
    CHECK.same("1", Check.refusals(x), "0 0 0 0 0 0");
    same("1 no image", x.on(), -3);
  }

  private static void letter() {
    CorkageOnRemarks x = new CorkageOnRemarks();
    same("2", x.letter('g'), 1);
    same("2", x.letter(0), 2);
    same("2", x.letter(255), 3);
    Refused r = new Refused("2", x);
    r.is(x.letter(-1), -4);
    r.is(x.letter(Integer.MIN_VALUE), -4);
    r.is(x.letter(256), -6);
    r.is(x.letter(Integer.MAX_VALUE), -6);
    for (int i = 4; i <= 96; i++) {
      same("2", x.letter(';'), i);
    }
    r = new Refused("2 full", x);
    r.is(x.letter(';'), -6);
    r.is(x.letter(-1), -4);
    r.is(x.letter(256), -6);
    same("2 letters are gone behind a fault", x.table(), -1001);
    same("2", x.letter('g'), 1);
  }

  private static void table() {
    CorkageOnRemarks x = new CorkageOnRemarks();
    same("3", Check.tell(x, "g00140;g25500;"), 2);
    CHECK.same("3", Check.state(x), "w1 c3 g1/40 g255/0 row0 letters0");
    same("3", Check.tell(x, "w2;c0;w3;c9;"), 4);
    CHECK.same("3", Check.state(x), "w3 c9 g1/40 g255/0 row0 letters0");
    same("3", Check.tell(x, "rr90000;rw81159;rd02200;rp03300;rc04400;rh05500;"), -2000 - 16);
    same("3", Check.tell(x, "rr90000;rw81159;rd00200;rp01300;rc00400;rh00500;rr00700;"), 7);
    CHECK.same("3", Check.held(x), "w3 c9 g1/40 g255/0 r0,9,0,0,0 r1,8,1,1,59 r2,0,0,2,0 r3,0,1,3,0 r4,0,0,4,0"
        + " r5,0,0,5,0 r0,0,0,7,0");
    same("3 exchange", Check.tell(x, "x01;m007;m140;"), 3);
    CHECK.same("3", Check.held(x), "w3 c9 g255/7 g1/40 r0,9,1,0,0 r1,8,0,1,59 r2,0,1,2,0 r3,0,0,3,0 r4,0,1,4,0"
        + " r5,0,1,5,0 r0,0,1,7,0");
    same("3 statements see those ahead", Check.tell(new CorkageOnRemarks(), "g00000;rr00000;g00000;x10;m140;rw01000;"), 6);
    same("3 ninety-six letters", Check.tell(new CorkageOnRemarks(), "w1;".repeat(32)), 32);
  }

  private static void fault(int want, String text) {
    CorkageOnRemarks x = at("g00310;g00420;rr00100;");
    String before = Check.state(x);
    same("3 " + text, Check.tell(x, text), want);
    CHECK.same("3 state behind " + text, Check.state(x), before);
    CHECK.same("3 refusals behind " + text, Check.refusals(x), "0 0 0 0 0 0");
  }

  private static void tableFaults() {
    fault(-1000, "");
    fault(-1000, ";");
    fault(-1000, "y");
    fault(-1000, "G00000;");
    fault(-1001, "g");
    fault(-1001, "g;");
    fault(-1006, "g00000");
    fault(-1006, "g000000;");
    fault(-1005, "g00000".substring(0, 5));
    fault(-1007, "g00000;;");
    fault(-1007, "g00000; ");
    fault(-1008, "g00000;w");
    fault(-1001, "r");
    fault(-1001, "rx00000;");
    fault(-1001, "r0");
    fault(-1002, "rrr");
    fault(-1006, "rr0000;");
    fault(-1007, "rr00000");
    fault(-1007, "rr000000;");
    fault(-1001, "w;");
    fault(-1002, "w22;");
    fault(-1002, "c10;");
    fault(-1002, "x1;");
    fault(-1003, "x011;");
    fault(-1003, "m01;");
    fault(-1004, "m0111;");
    fault(-1001, "w/;");
    fault(-1001, "w:;");
    // The first kind goes ahead of the second, wherever it is.
    fault(-1004, "w0;w");
    fault(-2000, "w0;");
    fault(-2000, "w4;");
    fault(-2003, "w3;w9;");
    fault(-2000, "g25600;");
    fault(-2000, "g99900;");
    fault(-2000, "g00041;");
    fault(-2007, "g00000;g00099;");
    fault(-2000, "rr02000;");
    fault(-2000, "rr00800;");
    fault(-2000, "rr00060;");
    fault(-2000, "x00;");
    fault(-2000, "x02;");
    fault(-2000, "x20;");
    fault(-2000, "m200;");
    fault(-2000, "m041;");
    fault(-2003, "w2;x11;g00000;");
    fault(-2000, "m200;g00000;");
    fault(-2000 - 28, "g00000;g00000;g00000;g00000;g00000;");
    fault(-2000 - 48, "rr00000;".repeat(7));
  }

  private static void guest() {
    CorkageOnRemarks x = at("g25540;g00700;");
    same("4", x.guest(0, 0), 255);
    same("4", x.guest(0, 1), 40);
    same("4", x.guest(1, 0), 7);
    same("4", x.guest(1, 1), 0);
    Refused r = new Refused("4", x);
    r.is(x.guest(-1, 0), -1);
    r.is(x.guest(2, 0), -1);
    r.is(x.guest(2, 2), -1);
    r.is(x.guest(0, 2), -2);
    r.is(x.guest(0, -1), -2);
    r.is(x.guest(Integer.MIN_VALUE, 0), -1);
  }

  private static void kind(String text, int kind, int minutes, int price, int hearers) {
    CorkageOnRemarks x = at("c7;g00000;g00000;g00000;" + text);
    same("5 kind of " + text, x.remark(0, 0), kind);
    same("5 minutes of " + text, x.remark(0, 5), minutes);
    same("5 price of " + text, x.remark(0, 6), price);
    same("5 hearers of " + text, x.remark(0, 7), hearers);
  }

  private static void remark() {
    kind("rr51000;", 0, 1, 7, 5);
    kind("rw52000;", 1, 1, 3, 3);
    kind("rd50000;", 2, 3, 14, 6);
    kind("rp51000;", 3, 2, 7, 4);
    kind("rp52000;", 3, 2, 7, 1);
    kind("rc51000;", 4, 8, 14, 5);
    kind("rc01000;", 4, 3, 14, 5);
    kind("rh51000;", 5, 1, 5, 5);
    same("5 alone", at("g00000;rp10000;").remark(0, 7), 0);
    CorkageOnRemarks x = at("g00000;g00000;rc91758;");
    same("5", x.remark(0, 1), 9);
    same("5", x.remark(0, 2), 1);
    same("5", x.remark(0, 3), 7);
    same("5", x.remark(0, 4), 58);
    Refused r = new Refused("5", x);
    r.is(x.remark(1, 0), -1);
    r.is(x.remark(-1, 0), -1);
    r.is(x.remark(1, 8), -1);
    r.is(x.remark(0, 8), -2);
    r.is(x.remark(0, -1), -2);
  }

  private static void ready() {
    CorkageOnRemarks x = at("g00000;rr00012;rr00000;");
    same("6", x.ready(0, 59), 12);
    same("6", x.ready(0, 0), 59);
    same("6", x.ready(1, 5), 0);
    CHECK.same("6", Check.held(x), "w1 c3 g0/0 r0,0,0,0,0 r0,0,0,0,5");
    Refused r = new Refused("6", x);
    r.is(x.ready(2, 0), -1);
    r.is(x.ready(-1, -1), -1);
    r.is(x.ready(2, 60), -1);
    r.is(x.ready(0, -1), -4);
    r.is(x.ready(0, 60), -6);
  }

  private static void mood() {
    CorkageOnRemarks x = at("g00012;g00000;");
    same("7", x.mood(0, 40), 12);
    same("7", x.mood(0, 0), 40);
    same("7", x.mood(1, 5), 0);
    CHECK.same("7", Check.held(x), "w1 c3 g0/0 g0/5");
    Refused r = new Refused("7", x);
    r.is(x.mood(2, 0), -1);
    r.is(x.mood(-1, -1), -1);
    r.is(x.mood(2, 41), -1);
    r.is(x.mood(0, -1), -4);
    r.is(x.mood(0, 41), -6);
  }

  private static void change() {
    CorkageOnRemarks x = at("g00110;g00220;g00330;rr00000;rr01000;rr02000;");
    same("8", x.change(0, 2), 3);
    CHECK.same("8", Check.held(x), "w1 c3 g3/30 g2/20 g1/10 r0,0,2,0,0 r0,0,1,0,0 r0,0,0,0,0");
    same("8", x.change(1, 0), 3);
    CHECK.same("8", Check.held(x), "w1 c3 g2/20 g3/30 g1/10 r0,0,2,0,0 r0,0,0,0,0 r0,0,1,0,0");
    Refused r = new Refused("8", x);
    r.is(x.change(0, 0), -1);
    r.is(x.change(0, 3), -1);
    r.is(x.change(3, 0), -1);
    r.is(x.change(-1, 0), -1);
    r.is(x.change(0, -1), -1);
    r.is(x.change(5, 5), -1);
  }

  private static void set() {
    CorkageOnRemarks x = at("g00000;rr00000;");
    same("9", x.set(0, 3), 1);
    same("9", x.set(0, 1), 3);
    same("9", x.set(0, 2), 1);
    same("9", x.set(1, 9), 3);
    same("9", x.set(1, 0), 9);
    CHECK.same("9", Check.held(x), "w2 c0 g0/0 r0,0,0,0,0");
    same("9 price", x.remark(0, 6), 0);
    Refused r = new Refused("9", x);
    r.is(x.set(2, 1), -2);
    r.is(x.set(-1, -1), -2);
    r.is(x.set(2, 99), -2);
    r.is(x.set(0, 0), -4);
    r.is(x.set(1, -1), -4);
    r.is(x.set(0, 4), -6);
    r.is(x.set(1, 10), -6);
  }

  private static void sums(String what, CorkageOnRemarks x, int... want) {
    for (int i = 0; i < 5; i++) {
      same("10 " + what + " " + i, x.sums(i), want[i]);
    }
  }

  private static void sums() {
    CorkageOnRemarks x = at(DINNER);
    sums("dinner", x, 66, 26, 6, 1, 60);
    sums("again", x, 66, 26, 6, 1, 60);
    sums("nobody", new CorkageOnRemarks(), 0, 0, 0, 0, -9);
    sums("nothing", at("g00013;"), 13, 0, 0, 0, -9);
    Refused r = new Refused("10", x);
    r.is(x.sums(5), -2);
    r.is(x.sums(-1), -2);
  }

  private static void evenings() {
    sums("ready at 57 dull", at("g00001;rd00057;"), 1, 6, 1, 0, 60);
    sums("ready at 58 dull", at("g00001;rd00058;"), 1, 0, 0, 0, -9);
    sums("no mood above 40", at("g00110;g00139;rw00000;"), 50, 1, 1, 0, 1);
    sums("no mood below 0", at("g00000;g00110;g00010;rc02000;"), 0 + 12 + 10, 6, 1, 0, 3);
    sums("as many do not like it", at("g00010;g00000;g00110;rh90000;"), 21, 9, 1, 0, 1);
    sums("more do not like it", at("g00010;g00000;g00110;g00020;rh90000;"), 40, 9, 1, 1, 1);
    sums("proposal liked", at("g00010;g00110;g00110;rp90000;"), 39, 3, 1, 0, 2);
    sums("proposal not liked", at("g00010;g00010;g00110;rp90000;"), 30, 3, 1, 1, 2);
    sums("proposal of the last goes to the first", at("g00110;g00010;g00010;rp92000;"), 39, 3, 1, 0, 2);
    sums("proposal of nothing", at("g00010;g00110;rp00000;"), 20, 3, 1, 0, 2);
    // Opened in one minute: the witty one first lifts to 40, then the crusted one takes one off; or the other way.
    sums("by numbers, more first", at("w2;g00010;g00139;g00200;rw00002;rc00100;"), 10 + 39 + 2, 7, 2, 0, 3);
    sums("by numbers, less first", at("w2;g00010;g00139;g00200;rc00100;rw00002;"), 10 + 40 + 2, 7, 2, 0, 3);
  }

  private static void taken(String what, CorkageOnRemarks x, int... want) {
    for (int i = 0; i < want.length; i++) {
      same("11 " + what + " " + i / 2 + "," + i % 2, x.of(i / 2, i % 2), want[i]);
    }
  }

  private static void of() {
    CorkageOnRemarks x = at(DINNER);
    taken("dinner", x, 0, 1, 1, 4, 4, 5, 10, 12, 12, 17, 59, 60);
    for (int r = 0; r < 6; r++) {
      same("11 sent back " + r, x.of(r, 2), r == 2 ? 1 : 0);
    }
    x.set(0, 2);
    taken("two waiters", x, 0, 1, 0, 3, 1, 2, 10, 12, 10, 15, 59, 60);
    x.set(0, 3);
    taken("three waiters", x, 0, 1, 0, 3, 0, 1, 10, 12, 10, 15, 59, 60);
    taken("ready first", at("g00000;rd00000;rr00002;rr00001;rr00002;"), 0, 3, 4, 5, 3, 4, 5, 6);
    taken("taken, never opened, never taken", at("g00000;rc90055;rr00056;"), 55, -9, -9, -9);
    taken("free in the minute in which it is opened", at("g00000;rp00058;rr00059;"), 58, 60, -9, -9);
    taken("the last minute", at("w2;g00000;rr00059;rr00059;rr00059;"), 59, 60, 59, 60, -9, -9);
    same("11 never opened is not sent back", at("g00000;g00000;rr00059;rr00059;").of(1, 2), 0);
    Refused r = new Refused("11", x);
    r.is(x.of(6, 0), -1);
    r.is(x.of(-1, 0), -1);
    r.is(x.of(6, 3), -1);
    r.is(x.of(0, 3), -2);
    r.is(x.of(0, -1), -2);
  }

  private static void moodAt() {
    CorkageOnRemarks x = at(DINNER);
    int[][] due = {{0, 0, 10}, {0, 11, 10}, {0, 12, 14}, {0, 59, 14}, {0, 60, 15}, {1, 0, 20}, {1, 1, 21}, {1, 16, 21},
        {1, 17, 20}, {1, 60, 20}, {2, 0, 30}, {2, 16, 30}, {2, 17, 32}, {2, 59, 32}, {2, 60, 31}};
    for (int[] d : due) {
      same("12 " + d[0] + "," + d[1], x.moodAt(d[0], d[1]), d[2]);
    }
    Refused r = new Refused("12", x);
    r.is(x.moodAt(3, 0), -1);
    r.is(x.moodAt(-1, -1), -1);
    r.is(x.moodAt(3, 61), -1);
    r.is(x.moodAt(0, -1), -4);
    r.is(x.moodAt(0, 61), -6);
  }

  private static void bill() {
    CorkageOnRemarks x = at(DINNER);
    same("13", x.bill(0), 9);
    same("13 sent back is paid", x.bill(1), 8);
    same("13", x.bill(2), 9);
    same("13 never opened is not paid", at("g00000;rr00059;rh50059;").bill(0), 3);
    Refused r = new Refused("13", x);
    r.is(x.bill(3), -1);
    r.is(x.bill(-1), -1);
  }

  private static void without() {
    CorkageOnRemarks x = at(DINNER);
    int[] due = {-1, 0, 0, -4, -1, 0};
    for (int r = 0; r < due.length; r++) {
      same("14 " + r, x.without(r), due[r]);
    }
    // Without what the waiter is busy with, the next is opened.
    same("14", at("g00010;g00110;rd01059;rw00059;").without(0), 2);
    CorkageOnRemarks y = at("g00010;g00140;rw00000;");
    same("14 no more than 40 anyway", y.without(0), 0);
    y.mood(1, 30);
    same("14 as it is now", y.without(0), -2);
    same("14", x.without(6), 1000000001);
    same("14", x.without(-1), 1000000001);
    CHECK.same("14", Check.refusals(x), "2 0 0 0 0 0");
    CHECK.same("14", Check.held(x), Check.held(at(DINNER)));
  }

  private static void bestMinute() {
    // The witty one lifts guest 1 from 39 to 40 again if it is opened behind the dull one.
    CorkageOnRemarks x = at("g00000;g00140;g00200;rw00000;rd00110;");
    same("15 now", x.sums(0), 39);
    same("15", x.bestMinute(0), 11);
    same("15 now still", x.sums(0), 39);
    x.ready(1, 20);
    same("15 as it is now", x.bestMinute(0), 21);
    x.ready(1, 10);
    same("15 best never opened", x.bestMinute(1), 58);
    same("15 all the same", at("g00000;rr00033;").bestMinute(0), 0);
    // At 58 it would come ahead of the proposal; at 59 the waiter has no time for it, and guest 2 loses nothing.
    same("15 the last minute", at("g00000;g00140;g00210;rh00000;rp00058;").bestMinute(0), 59);
    same("15 ready changed", x.ready(0, 11), 0);
    same("15 then", x.sums(0), 40);
    Refused r = new Refused("15", x);
    r.is(x.bestMinute(2), -1);
    r.is(x.bestMinute(-1), -1);
  }

  private static void enough() {
    same("16", new CorkageOnRemarks().enough(), 1);
    same("16", at("w3;g00000;rr00059;").enough(), 1);
    same("16", at("g00000;rr00059;rr00059;").enough(), 2);
    same("16", at("g00000;rr00059;rr00059;rr00059;").enough(), 3);
    same("16", at("g00000;rr00059;rr00059;rr00059;rr00059;").enough(), -9);
    CorkageOnRemarks x = at("w2;g00000;rd00058;");
    same("16", x.enough(), -9);
    same("16 waiters stay", x.count(2), 2);
  }

  private static void swap() {
    same("17", new CorkageOnRemarks().swap(), -9);
    same("17", at("g00010;g00110;rp50000;").swap(), -9);
    CorkageOnRemarks x = at("g00010;g00010;g00010;g00110;rp50000;");
    same("17", x.swap(), 2);
    same("17 seats stay", x.remark(0, 2), 0);
    x.change(0, 2);
    same("17", x.sums(0), 45);
    same("17 no more than now", x.swap(), -9);
    same("17 the least of several", at("g00110;g00010;g00110;rp50000;").swap(), 1);
    same("17 others than the first", at("g00210;g00010;g00110;g00010;rp50000;rp53100;").swap(), 12);
    same("17 the most", at("g00010;g00010;g00138;g00010;g00110;rp50000;").swap(), 3);
  }

  private static void fit() {
    same("18", new CorkageOnRemarks().fit(), -9);
    CorkageOnRemarks x = at("g00110;g00010;g00110;rr00000;");
    same("18", x.fit(), 1);
    same("18 by the first guest", at("g00010;g00110;g00110;rr01000;").fit(), 0);
    same("18 it stays", x.remark(0, 2), 0);
    same("18 no more than now", at("g00110;g00010;g00110;rr01000;").fit(), -9);
    same("18 the second remark", at("g00110;g00010;g00110;rr01000;rw00000;").fit(), 11);
    same("18 one at a time", at("g00110;g00110;g00010;rr01000;rr00000;").fit(), 2);
    same("18 the least of several", at("g00110;g00010;g00110;rr00000;rr02000;").fit(), 1);
  }

  private static void could() {
    CorkageOnRemarks x = at("g00310;g00610;g00400;");
    same("19", x.could(0), 6);
    same("19", x.could(1), 2);
    same("19 the first topic alone", at("g00110;g00110;g00200;").could(0), 1);
    same("19 the first topic alone", at("g00110;g00110;g00200;").could(1), 2);
    same("19", new CorkageOnRemarks().could(0), 255);
    same("19", new CorkageOnRemarks().could(1), 0);
    same("19", at("g12800;g12800;g12900;").could(0), 128);
    same("19", at("g12800;g12800;g12900;").could(1), 3);
    Refused r = new Refused("19", x);
    r.is(x.could(2), -2);
    r.is(x.could(-1), -2);
  }

  private static void dear() {
    CorkageOnRemarks x = at(DINNER);
    same("20", x.dear(), 5);
    x.set(1, 4);
    same("20 the least of several", x.dear(), 1);
    x.set(1, 0);
    same("20", x.dear(), 5);
    same("20", new CorkageOnRemarks().dear(), -9);
    same("20 nothing is dear", at("c0;g00000;rr00000;").dear(), 0);
  }

  private static void spare() {
    CorkageOnRemarks x = at(DINNER);
    same("21", x.spare(0), 4);
    same("21", x.spare(1), 1);
    same("21", new CorkageOnRemarks().spare(0), 0);
    same("21 never opened", at("g00000;g00000;rr00059;rr00059;").spare(0), 1 + 2);
    same("21", at("g00000;g00000;rr00059;rr00059;").spare(1), 2);
    same("21 the fewest", at("g00000;g00100;rd01059;rr00100;rr00000;").spare(0), 2);
    same("21 two", at("g00000;g00000;rr00000;rr00000;").spare(0), 3);
    same("21 two", at("g00000;g00000;rr00000;rr00000;").spare(1), 2);
    Refused r = new Refused("21", x);
    r.is(x.spare(2), -2);
    r.is(x.spare(-1), -2);
  }

  private static void cold() {
    same("22", at(DINNER).cold(), 0);
    same("22", new CorkageOnRemarks().cold(), 0);
    // The crusted one takes one off guest 1 and gives two; the dull one takes one off and gives nothing.
    CorkageOnRemarks x = at("g00010;g00110;g00210;rd00100;rc00120;rd00110;");
    same("22", x.cold(), 5);
    same("22", x.sums(0), 29);
    same("22 the fewest", at("g00010;g00110;rd01059;rr00100;rw00059;").cold(), 1);
    same("22 the least of several", at("w2;g00010;g00110;rr00059;rr00059;rw00059;").cold(), 1);
    same("22 both", at("g00010;g00110;rr00059;rr00059;rw00059;").cold(), 3);
  }

  private static void silence() {
    CorkageOnRemarks x = at(DINNER);
    same("23", x.silence(0), 42);
    same("23", x.silence(1), 18);
    same("23", new CorkageOnRemarks().silence(0), 61);
    same("23", new CorkageOnRemarks().silence(1), 0);
    same("23 the first of two", at("g00000;rr00029;").silence(0), 30);
    same("23 the first of two", at("g00000;rr00029;").silence(1), 0);
    same("23 to the end", at("g00000;rr00028;").silence(0), 31);
    same("23 to the end", at("g00000;rr00028;").silence(1), 30);
    same("23 the last minute", at("g00000;rr00059;").silence(0), 60);
    Refused r = new Refused("23", x);
    r.is(x.silence(2), -2);
    r.is(x.silence(-1), -2);
  }

  private static void busy() {
    CorkageOnRemarks x = at(DINNER);
    same("24", x.busy(0), 13);
    same("24", x.busy(1), 13);
    x.set(0, 2);
    same("24 some of two", x.busy(0), 3 + 5 + 1);
    same("24 all of two", x.busy(1), 2 + 2);
    same("24", new CorkageOnRemarks().busy(0), 0);
    same("24", new CorkageOnRemarks().busy(1), 0);
    same("24 cut by the end", at("g00000;rc90055;").busy(0), 5);
    Refused r = new Refused("24", x);
    r.is(x.busy(2), -2);
    r.is(x.busy(-1), -2);
  }

  private static void who() {
    CorkageOnRemarks x = at("g00010;g00120;rr50000;");
    same("25 no row", x.who(1, 0, 0), 63);
    same("25 no row", x.who(1, 0, 1), 255);
    Check.rows(x, 20, 21);
    same("25", x.who(1, 0, 0), 1 + 32);
    same("25", x.who(1, 0, 1), 1);
    same("25 the row stays", x.count(6), 2);
    same("25 the other", x.who(0, 0, 0), 0);
    x.clear();
    Check.rows(x, 20, 20);
    same("25", x.who(1, 0, 0), 4 + 8 + 16);
    same("25", x.who(1, 0, 1), 254);
    Check.rows(x, 25);
    same("25", x.who(1, 0, 0), 8);
    same("25", x.who(1, 0, 1), 0);
    Check.rows(x, 25, 25, 25, 25, 25, 25, 25, 25, 25);
    same("25 twelve", x.who(1, 0, 0), 8);
    same("25 it stays", x.remark(0, 0), 0);
    Refused r = new Refused("25", x);
    r.is(x.who(2, 0, 0), -1);
    r.is(x.who(0, 1, 0), -1);
    r.is(x.who(-1, 0, 0), -1);
    r.is(x.who(0, -1, 2), -1);
    r.is(x.who(0, 0, 2), -2);
    r.is(x.who(0, 0, -1), -2);
  }

  private static void haggle() {
    String two = "g00110;g00110;";
    same("26 each has more by bringing nothing", at(two + "rr00000;rr01000;").haggle(0, 1), 11);
    same("26 nothing to lose", at("c0;" + two + "rr00000;rr01000;").haggle(0, 1), 0);
    same("26 the first alone", at(two + "rr00000;rh01000;").haggle(0, 1), 10);
    same("26 the other alone", at(two + "rr00000;rh01000;").haggle(1, 0), 1);
    same("26 a third brings all the same", at(two + "g00110;rr02000;").haggle(0, 1), 0);
    // While guest 1 brings his, the waiter has no time for guest 0's, which would lift guest 1.
    CorkageOnRemarks x = at(two + "rh00059;rp91058;");
    same("26", x.haggle(0, 1), 1);
    // As it is, the first has 34 instead of 32 by another choice, then the other 12 instead of 10, then the first 34
    // instead of 33, then the other 11 instead of 10: round and round.
    same("26 no pair", at("w2;c0;g00232;g00111;g00222;rc51051;rp12055;rc02053;rc90050;rc52152;").haggle(0, 1), -9);
    Refused r = new Refused("26", x);
    r.is(x.haggle(0, 0), -1);
    r.is(x.haggle(0, 2), -1);
    r.is(x.haggle(2, 0), -1);
    r.is(x.haggle(-1, 0), -1);
    r.is(x.haggle(1, -1), -1);
  }

  private static void payments() {
    same("27", new CorkageOnRemarks().payments(), 0);
    same("27 alone", at("g00000;rr00000;").payments(), 0);
    same("27", at(DINNER).payments(), 1);
    // 9 from guest 0: each of three is to pay 3.
    same("27", at("g00000;g00000;g00000;rh90000;").payments(), 2);
    // One over: guest 0 pays it himself.
    same("27", at("g00000;g00000;rh10000;").payments(), 0);
    same("27", at("g00000;g00000;rh11000;").payments(), 1);
    // 6, 6, 0, 0: two pairs.
    same("27", at("g00000;g00000;g00000;g00000;rh60000;rh61000;").payments(), 2);
    // 9, 7, 8, 0, 0, 0 of 24, so 4 each: 5, 3, 4 against 4, 4, 4: one pair, and four in three payments.
    same("27", at("g00000;g00000;g00000;g00000;g00000;g00000;rh90000;rh71000;rh82000;").payments(), 4);
  }

  private static void odds(CorkageOnRemarks x, int t, int v, long above, long below) {
    same("28 " + t + "," + v + " above", x.odds(t, v, 0), above);
    same("28 " + t + "," + v + " below", x.odds(t, v, 1), below);
  }

  private static void odds() {
    CorkageOnRemarks x = at("g00010;g00110;rr00000;");
    odds(x, 3, 20, 1, 1);
    odds(x, 3, 21, 2, 3);
    odds(x, 20, 21, 19, 20);
    odds(x, 3, 22, 0, 1);
    odds(x, 2, 0, 1, 1);
    odds(x, 20, 240, 0, 1);
    odds(new CorkageOnRemarks(), 2, 0, 1, 1);
    odds(new CorkageOnRemarks(), 2, 1, 0, 1);
    CorkageOnRemarks three = at("g00010;g00110;rr00000;rr00000;rr00000;");
    odds(three, 2, 22, 1, 2);
    odds(three, 2, 23, 1, 8);
    odds(three, 4, 22, 27, 32);
    CorkageOnRemarks seven = at("g00000;g00100;" + "rr00000;".repeat(7));
    odds(seven, 20, 7, 893871739L, 1280000000L);
    long big = 4000000000000000000L;
    long[][] refused = {{1, 0, 0, 4}, {-5, 241, 2, 4}, {2, -1, 0, 4}, {21, -1, 0, 4}, {21, 0, 0, 6}, {2, 241, 0, 6},
        {21, 0, 2, 6}, {2, 0, 2, 2}, {2, 0, -1, 2}};
    int[] counts = new int[7];
    for (long[] r : refused) {
      same("28 refused " + r[0] + "," + r[1] + "," + r[2], x.odds((int) r[0], (int) r[1], (int) r[2]), big + r[3]);
      counts[(int) r[3]]++;
    }
    CHECK.same("28", Check.refusals(x), "0 " + counts[2] + " 0 " + counts[4] + " 0 " + counts[6]);
  }

  private static void row() {
    CorkageOnRemarks x = new CorkageOnRemarks();
    same("29", x.row(0), 1);
    same("29", x.row(99), 2);
    Refused r = new Refused("29", x);
    r.is(x.row(-1), -4);
    r.is(x.row(100), -6);
    for (int i = 3; i <= 12; i++) {
      same("29", x.row(5), i);
    }
    r = new Refused("29 full", x);
    r.is(x.row(5), -6);
    r.is(x.row(-1), -4);
    r.is(x.row(100), -6);
  }

  private static void judge() {
    CorkageOnRemarks x = at(DINNER);
    same("30 no row", x.judge(), -9);
    Check.rows(x, 3, 3, 4, 5, 5, 5, 5, 5, 5, 5, 5, 6);
    same("30", x.judge(), -9);
    same("30 none then", x.count(6), 0);
    Check.rows(x, 3, 3, 4, 5, 5, 5, 5, 5, 5, 5, 5, 5);
    same("30", x.judge(), 11);
    same("30 none then", x.count(6), 0);
    Check.rows(x, 2, 2);
    same("30", x.judge(), 0);
    Check.rows(x, 3, 4, 9);
    same("30", x.judge(), 1);
  }

  private static void clear() {
    CorkageOnRemarks x = new CorkageOnRemarks();
    same("31", x.clear(), 0);
    Check.rows(x, 1, 2, 3);
    same("31", x.clear(), 3);
    same("31", x.count(6), 0);
    same("31", x.row(4), 1);
    same("31 the new number", x.judge(), 0);
  }

  private static void lots() {
    CorkageOnRemarks x = at("g00010;g00110;rr00000;");
    same("32", x.lots(1, 0, 0), 21);
    same("32", x.lots(20, 0, 0), 420);
    same("32", x.lots(20, -1, 1), 0);
    same("32 ready stays", x.remark(0, 4), 0);
    CorkageOnRemarks back = at("g00110;g00010;rr00000;rr00000;");
    same("32 sent back", back.lots(5, 7, 1), 10);
    same("32 no moods", back.lots(5, 7, 0), 100);
    // From seed 0 the first draws below 60 are 23, 57, 6, 59, 49, 50; a dull one is opened if ready by 57.
    CorkageOnRemarks dull = at("g00110;g00010;rd00000;");
    int z = 0;
    int openedLots = 0;
    for (int n = 1; n <= 20; n++) {
      z = z * 1664525 + 1013904223;
      openedLots += (z & 0x7fffffff) / 256 % 60 <= 57 ? 1 : 0;
      same("32 of " + n, dull.lots(n, 0, 1), openedLots);
    }
    Refused r = new Refused("32", x);
    r.is(x.lots(0, 0, 0), -4);
    r.is(x.lots(-1, 0, 2), -4);
    r.is(x.lots(21, 0, 2), -6);
    r.is(x.lots(1, 0, 2), -2);
    r.is(x.lots(1, 0, -1), -2);
  }

  private static void image() {
    CorkageOnRemarks x = new CorkageOnRemarks();
    same("33", x.image(), 0);
    Check.tell(x, "g00000;g00000;");
    same("33", x.image(), 2);
    CHECK.same("33", Check.state(x), "w1 c3 g0/0 g0/0 row0 letters0");
  }

  private static void on() {
    CorkageOnRemarks x = at(DINNER);
    Refused r = new Refused("34", x);
    r.is(x.on(), -3);
    String before = Check.held(x);
    x.row(7);
    same("34", x.image(), 3);
    Check.tell(x, "w3;c9;x02;m140;g00000;rr03000;");
    x.ready(0, 33);
    x.row(8);
    x.letter('g');
    x.mood(9, 9);
    String refusals = Check.refusals(x);
    same("34", x.on(), 3);
    CHECK.same("34", Check.state(x), before + " row2 letters1");
    CHECK.same("34 refusals stay", Check.refusals(x), refusals);
    sums("as then", x, 66, 26, 6, 1, 60);
    x.mood(0, 0);
    same("34 the image stays", x.on(), 3);
    CHECK.same("34", Check.held(x), before);
  }

  private static void count() {
    CorkageOnRemarks x = at("w2;c5;" + DINNER);
    int[] due = {3, 6, 2, 5, 60, 5 + 10 + 2 + 5 + 10 + 7, 0, 0};
    for (int what = 0; what < due.length; what++) {
      same("35 " + what, x.count(what), due[what]);
    }
    Check.rows(x, 1, 2);
    x.letter(1);
    same("35 row", x.count(6), 2);
    same("35 letters", x.count(7), 1);
    for (int what : new int[] {-1, 8, 9, 10, 17, Integer.MIN_VALUE, Integer.MAX_VALUE}) {
      same("35 another " + what, x.count(what), -9);
    }
    CHECK.same("35 none is refused", Check.refusals(x), "0 0 0 0 0 0");
    x.guest(9, 0);
    x.guest(9, 0);
    x.sums(9);
    x.on();
    x.row(-1);
    x.row(100);
    x.without(9);
    x.odds(0, 0, 0);
    CHECK.same("35", Check.refusals(x), "3 1 1 2 0 1");
  }

  private static String answer(CorkageOnRemarks x, int query) {
    switch (query) {
      case 0:
        return "sums " + x.sums(0);
      case 1:
        return "of " + x.of(4, 1);
      case 2:
        return "moodAt " + x.moodAt(1, 16);
      case 3:
        return "bill " + x.bill(0);
      case 4:
        return "without " + x.without(0);
      case 5:
        return "bestMinute " + x.bestMinute(0);
      case 6:
        return "enough " + x.enough();
      case 7:
        return "swap " + x.swap();
      case 8:
        return "fit " + x.fit();
      case 9:
        return "spare " + x.spare(0);
      case 10:
        return "cold " + x.cold();
      case 11:
        return "silence " + x.silence(0);
      case 12:
        return "busy " + x.busy(0);
      case 13:
        return "who " + x.who(0, 3, 0);
      case 14:
        return "who " + x.who(0, 3, 1);
      case 15:
        return "haggle " + x.haggle(0, 1);
      case 16:
        return "payments " + x.payments();
      case 17:
        return "odds " + x.odds(3, 70, 0);
      case 18:
        return "lots " + x.lots(3, 5, 0);
      case 19:
        return "judge " + x.judge();
      default:
        return "table " + Check.tell(x, "c3;") + Check.held(x);
    }
  }

  // A call answers of the table as it is now, whatever was tried ahead of it, and changes nothing.
  private static void anewEachTime() {
    String told = "g00210;g00010;g00110;g00010;rp50000;rp53100;rw01000;rd02055;rc33055;rh01059;";
    for (int query = 0; query <= 20; query++) {
      CorkageOnRemarks fresh = at(told);
      CorkageOnRemarks again = at(told);
      again.image();
      // Ahead of the call another table was tried: all is as good as it can be, at the end, and by other guests.
      Check.tell(again, "x13;x03;m040;m140;m240;m340;g25540;w3;c9;rd01700;");
      again.on();
      Check.rows(fresh, 10, 10);
      Check.rows(again, 10, 10);
      String before = Check.held(again);
      CHECK.same("asked anew " + query, answer(again, query), answer(fresh, query));
      CHECK.same("held behind " + query, Check.held(again), before);
    }
  }
}
