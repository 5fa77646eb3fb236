/** Promises 4 to 9 at their bounds: what is told of guests and remarks, and what is set. */
final class BoundsOfTheTable {
  private static final String SIX_GUESTS = "g00110;".repeat(6);

  private final Sentences s;

  BoundsOfTheTable(Sentences sentences) {
    s = sentences;
  }

  void run() {
    firstAndLastGuest();
    firstAndLastRemark();
    minutesAndPrices();
    allButWhoBringsIt();
    nextGuestRound();
    ready();
    mood();
    changeOfSeats();
    changeOfSeatsRefused();
    waiters();
    corkage();
  }

  private void firstAndLastGuest() {
    s.of(4, "GUESTS 0 .. as they come (6 at most)");
    CorkageOnRemarks x = Check.at("g00000;g00101;g12802;g25438;g12739;g25540;");
    int[] likes = {0, 1, 128, 254, 127, 255};
    int[] moods = {0, 1, 2, 38, 39, 40};
    for (int g = 0; g < 6; g++) {
      s.is("likes of guest " + g, x.guest(g, 0), likes[g]);
      s.is("mood of guest " + g, x.guest(g, 1), moods[g]);
    }
    s.of(4, "-1 NOBODY: no such GUEST, REMARK.");
    s.is("guest 6 of six", x.guest(6, 0), -1);
    s.is("guest -1 of six", x.guest(-1, 0), -1);
    s.is("guest 0 of none", new CorkageOnRemarks().guest(0, 0), -1);
  }

  private void firstAndLastRemark() {
    s.of(5, "REMARKS 0 .. as they come (7 at most)");
    CorkageOnRemarks x = Check.at("g00110;g00110;rr00000;rw11101;rd20202;rp31303;rc40457;rh51658;rh91759;");
    for (int r = 0; r < 7; r++) {
      s.is("kind of remark " + r, x.remark(r, 0), Math.min(r, 5));
      s.is("figure of remark " + r, x.remark(r, 1), r == 6 ? 9 : r);
      s.is("guest of remark " + r, x.remark(r, 2), r == 6 ? 1 : r % 2);
      s.is("topic of remark " + r, x.remark(r, 3), r < 5 ? r : r + 1);
      s.is("ready of remark " + r, x.remark(r, 4), r < 4 ? r : 53 + r);
    }
    s.of(5, "-1 NOBODY: no such GUEST, REMARK.");
    s.is("remark 7 of seven", x.remark(7, 0), -1);
    s.is("remark -1 of seven", x.remark(-1, 0), -1);
    s.is("remark 0 of none", Check.at("g00110;").remark(0, 0), -1);
  }

  private void minutesAndPrices() {
    int[] half = {0, 0, 1, 1, 2, 2, 3, 3, 4, 4};
    int[] twice = {0, 2, 4, 6, 8, 10, 12, 14, 16, 18};
    for (int figure = 0; figure <= 9; figure++) {
      for (int corkage = 0; corkage <= 9; corkage++) {
        s.of(5, "r REMARK: 1; 1; 0; CORKAGE;");
        minutesAndPrice("r", figure, corkage, 1, corkage);
        s.of(5, "half of CORKAGE, cut");
        minutesAndPrice("w", figure, corkage, 1, half[corkage]);
        s.of(5, "d DULL under REMARK: 3; 0; 1; twice CORKAGE.");
        minutesAndPrice("d", figure, corkage, 3, twice[corkage]);
        s.of(5, "p PROPOSAL under REMARK: 2; FIGURE; FIGURE; as a REMARK's;");
        minutesAndPrice("p", figure, corkage, 2, corkage);
        s.of(5, "c CRUSTED under DULL: FIGURE more than a DULL one; 2; 1.");
        minutesAndPrice("c", figure, corkage, 3 + figure, twice[corkage]);
        s.of(5, "h HOUSE under DULL: 1; 1; 1; FIGURE.");
        minutesAndPrice("h", figure, corkage, 1, figure);
      }
    }
  }

  private void minutesAndPrice(String kind, int figure, int corkage, int minutes, int price) {
    CorkageOnRemarks x = Check.at("g00110;c" + corkage + ";r" + kind + figure + "0000;");
    String of = " of " + kind + figure + " at " + corkage;
    s.is("minutes" + of, x.remark(0, 5), minutes);
    s.is("price" + of, x.remark(0, 6), price);
  }

  private void allButWhoBringsIt() {
    s.of(5, "all but who brings it");
    for (char kind : new char[] {'r', 'w', 'd', 'c', 'h'}) {
      for (int guests = 1; guests <= 6; guests++) {
        for (int bringer = 0; bringer < guests; bringer++) {
          CorkageOnRemarks x = Check.at("g00110;".repeat(guests) + "r" + kind + "0" + bringer + "000;");
          int hear = 0;
          for (int g = 0; g < guests; g++) {
            hear += g == bringer ? 0 : 1 << g;
          }
          s.is(kind + " of guest " + bringer + " among " + guests, x.remark(0, 7), hear);
        }
      }
    }
  }

  private void nextGuestRound() {
    s.of(5, "the next GUEST round alone");
    for (int guests = 2; guests <= 6; guests++) {
      for (int bringer = 0; bringer < guests; bringer++) {
        CorkageOnRemarks x = Check.at("g00110;".repeat(guests) + "rp0" + bringer + "000;");
        int next = bringer == guests - 1 ? 0 : bringer + 1;
        s.is("of guest " + bringer + " among " + guests, x.remark(0, 7), 1 << next);
      }
    }
    CorkageOnRemarks x = Check.at("g00110;rp00000;");
    s.is("one who sits alone is heard by nobody", x.remark(0, 7), 0);
    Check.tell(x, "g00110;");
    s.is("a guest more comes to sit next", x.remark(0, 7), 2);
    Check.tell(x, "rp01000;");
    s.is("the last's next is the first", x.remark(1, 7), 1);
    Check.tell(x, "g00110;");
    s.is("and with a guest more it is he", x.remark(1, 7), 4);
  }

  private void ready() {
    s.of(6, "READY becomes v: what it was.");
    CorkageOnRemarks x = Check.at("g00110;" + "rr00030;".repeat(7));
    for (int r : new int[] {0, 6}) {
      int before = 30;
      for (int v : new int[] {0, 59, 1, 58, 58, 0}) {
        s.is("remark " + r + " at " + v, x.ready(r, v), before);
        s.is("it is so", x.remark(r, 4), v);
        before = v;
      }
    }
    s.is("the others stay", x.remark(1, 4) + " " + x.remark(5, 4), "30 30");
    s.of(6, "-1; -4; -6 59.");
    s.is("remark 7 of seven", x.ready(7, 0), -1);
    s.is("at 60", x.ready(6, 60), -6);
    s.is("at -1", x.ready(6, -1), -4);
    s.is("it stays", x.remark(6, 4), 0);
  }

  private void mood() {
    s.of(7, "MOOD becomes v: what it was.");
    CorkageOnRemarks x = Check.at(SIX_GUESTS);
    for (int g : new int[] {0, 5}) {
      int before = 10;
      for (int v : new int[] {0, 40, 1, 39, 39, 0}) {
        s.is("guest " + g + " at " + v, x.mood(g, v), before);
        s.is("it is so", x.guest(g, 1), v);
        before = v;
      }
    }
    s.is("the others stay", x.guest(1, 1) + " " + x.guest(4, 1), "10 10");
    s.of(7, "-1; -4; -6 40.");
    s.is("guest 6 of six", x.mood(6, 0), -1);
    s.is("at 41", x.mood(5, 41), -6);
    s.is("at -1", x.mood(5, -1), -4);
    s.is("it stays", x.guest(5, 1), 0);
  }

  private void changeOfSeats() {
    s.of(8, "Two GUESTS change seats: LIKES of the first then.");
    for (int one = 0; one < 6; one++) {
      for (int other = 0; other < 6; other++) {
        if (one != other) {
          seatsChanged(one, other);
        }
      }
    }
  }

  private void seatsChanged(int one, int other) {
    CorkageOnRemarks x = Check.at("g00110;g00211;g00412;g00813;g01614;g03215;",
        "rr00000;rr01000;rr02000;rr03000;rr04000;rr05000;rh00000;");
    String seats = one + " and " + other;
    s.is(seats, x.change(one, other), 1 << other);
    for (int g = 0; g < 6; g++) {
      int was = g == one ? other : g == other ? one : g;
      s.is(seats + ": likes of " + g, x.guest(g, 0), 1 << was);
      s.is(seats + ": mood of " + g, x.guest(g, 1), 10 + was);
      s.is(seats + ": who brings remark " + was, x.remark(was, 2), g);
    }
    s.is(seats + ": who brings the last", x.remark(6, 2), one == 0 ? other : other == 0 ? one : 0);
  }

  private void changeOfSeatsRefused() {
    s.of(8, "-1 either (one twice, too).");
    for (int guests = 0; guests <= 6; guests++) {
      String table = "c1;" + "g00110;".repeat(guests);
      s.is("one above of " + guests, Check.at(table).change(guests, 0), -1);
      s.is("the other above of " + guests, Check.at(table).change(0, guests), -1);
      s.is("both above of " + guests, Check.at(table).change(guests, guests + 1), -1);
      s.is("one below of " + guests, Check.at(table).change(-1, 0), -1);
      s.is("the other below of " + guests, Check.at(table).change(0, -1), -1);
      for (int g = 0; g < guests; g++) {
        s.is(g + " twice", Check.at(table).change(g, g), -1);
      }
    }
  }

  private void waiters() {
    s.of(9, "WAITERS (what 0), CORKAGE (1) becomes v: what it was.");
    CorkageOnRemarks x = new CorkageOnRemarks();
    s.is("3 waiters", x.set(0, 3), 1);
    s.is("1 waiter", x.set(0, 1), 3);
    s.is("2 waiters", x.set(0, 2), 1);
    s.of(9, "-2; -4 (1; 0); -6 (3; 9).");
    s.is("no waiter", x.set(0, 0), -4);
    s.is("4 waiters", x.set(0, 4), -6);
    s.is("they stay", x.count(2), 2);
    s.is("corkage stays", x.count(3), 3);
  }

  private void corkage() {
    s.of(9, "WAITERS (what 0), CORKAGE (1) becomes v: what it was.");
    CorkageOnRemarks x = new CorkageOnRemarks();
    int before = 3;
    for (int v = 0; v <= 9; v++) {
      s.is("corkage " + v, x.set(1, v), before);
      s.is("it is so", x.count(3), v);
      before = v;
    }
    s.of(9, "-2; -4 (1; 0); -6 (3; 9).");
    s.is("corkage -1", x.set(1, -1), -4);
    s.is("corkage 10", x.set(1, 10), -6);
    s.is("neither waiters nor corkage", x.set(2, 1), -2);
    s.is("it stays", x.count(3), 9);
    s.is("waiters stay", x.count(2), 1);
  }
}
