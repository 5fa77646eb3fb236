/** The document from its first line to the KINDS: each sentence whole, and what would be otherwise if it did not hold. */
final class WordsOfTelling {
  // Guest 0 likes topic 0, guest 1 topics 0 and 1, guest 2 topic 1; the last remark's topic nobody likes.
  private static final String TALE = "g00110;g00320;g00230;"
      + "rr00000;rd01105;rc12010;rp41120;rh52030;rw00130;rr01740;";

  private final Sentences s;

  WordsOfTelling(Sentences sentences) {
    s = sentences;
  }

  void run() {
    tale();
    taleOfEvening();
    taleOfWhatWouldBe();
    taleOfRows();
    calls();
    guests();
    remarks();
    waitersAndCorkage();
    statements();
    faults();
    kinds();
    underOthers();
  }

  private void tale() {
    s.of(1, "Corkage on one's own remarks: a restaurant table told in letters, guests who like topics and have moods,"
        + " remarks of kinds that they bring, ready at minutes, opened by waiters at a charge, decanted, thrown a crust,"
        + " for the whole table or for one's neighbour;");
    CorkageOnRemarks x = new CorkageOnRemarks();
    s.is("told in letters", Check.tell(x, TALE), 10);
    int[] hearers = {6, 5, 3, 4, 3, 6, 5};
    int[] minutes = {1, 3, 4, 2, 1, 1, 1};
    int[] charge = {3, 6, 6, 3, 5, 1, 3};
    for (int r = 0; r < 7; r++) {
      s.is("who hears remark " + r, x.remark(r, 7), hearers[r]);
      s.is("minutes of remark " + r, x.remark(r, 5), minutes[r]);
      s.is("charge of remark " + r, x.remark(r, 6), charge[r]);
    }
  }

  private void taleOfEvening() {
    s.of(10, "evenings minute by minute, when each is opened, who likes it, what is sent back, the bill, the moods;");
    CorkageOnRemarks x = Check.at(TALE);
    int[] opened = {1, 8, 14, 22, 31, 32, 41};
    for (int r = 0; r < 7; r++) {
      s.is("remark " + r + " is opened", x.of(r, 1), opened[r]);
      s.is("remark " + r + " is sent back", x.of(r, 2), r == 6 ? 1 : 0);
    }
    int[] moods = {12, 26, 36};
    int[] bills = {4, 12, 11};
    for (int g = 0; g < 3; g++) {
      s.is("mood of guest " + g, x.moodAt(g, 60), moods[g]);
      s.is("bill of guest " + g, x.bill(g), bills[g]);
    }
    int[] sums = {74, 27, 7, 1, 41};
    for (int what = 0; what < 5; what++) {
      s.is("sums(" + what + ")", x.sums(what), sums[what]);
    }
  }

  private void taleOfWhatWouldBe() {
    s.of(14, "what would be without one, at another minute, by more waiters, on other seats, the dearest, the cheapest two,"
        + " the topic all could have, who would swap seats, what was said by how moods went, what to keep cold, silences,"
        + " whose bill it is, told moods looked at, evenings by lot, an image.");
    CorkageOnRemarks x = Check.at(TALE);
    s.is("without the proposal", x.without(3), -4);
    s.is("without the dull one", x.without(1), 1);
    s.is("the dull one too late to be opened", x.bestMinute(1), 58);
    s.is("by more waiters", x.enough(), 1);
    s.is("on other seats the proposal is sent back", x.swap(), -9);
    s.is("guest 2 brings remark 0", x.fit(), 2);
    s.is("the dearest", x.dear(), 1);
    s.is("what is sent back", x.spare(0), 64);
    s.is("topics 0 and 1", x.could(0), 3);
    s.is("two like either", x.could(1), 2);
    s.is("what to keep cold", x.cold(), 2);
    s.is("silence", x.silence(0), 19);
    s.is("silence from", x.silence(1), 42);
    s.is("some waiter is not free", x.busy(0), 13);
    s.is("whose bill it is", x.payments(), 2);
    s.is("each would rather bring nothing", x.haggle(0, 1), 11);
    s.is("75 or more by leaving out the dull one alone", x.odds(2, 75, 1), 64);
    s.is("image", x.image(), 3);
  }

  private void taleOfRows() {
    s.of(25, "what was said by how moods went");
    CorkageOnRemarks x = Check.at(TALE);
    Check.rows(x, 20, 21, 21);
    s.is("a remark or one of the house", x.who(1, 0, 0), 1 + 32);
    s.is("of a topic that he likes, too, and not more others than one do not", x.who(1, 0, 1), 1 + 2);
    x.clear();
    Check.rows(x, 1, 2, 3, 3, 4, 4, 6, 6, 7, 7, 7, 7);
    s.is("how many were opened", x.judge(), -9);
  }

  // Above all the dearest calls: each goes through evenings with every set of seven remarks left out.
  private void calls() {
    s.of(35, "An object is used for at most 512 calls after it has been made");
    CorkageOnRemarks x = Check.at(TALE);
    int calls = TALE.length() + 1;
    while (calls < 508) {
      s.is("call " + (calls + 1), x.odds(2, 75, 0), 1);
      s.is("call " + (calls + 2), x.odds(2, 75, 1), 64);
      calls += 2;
    }
    s.is("one of the last", x.cold(), 2);
    s.is("one of the last", x.spare(0), 64);
    s.is("the last", x.count(11), 0);
    s.free("; what later calls answer is free.");
  }

  private void guests() {
    s.of(4, "GUESTS 0 .. as they come (6 at most) round a table: LIKES (TOPICS 0 .. 7 as bits 0 .. 255),"
        + " MOOD (0 .. 40; 10 at first).");
    for (int topic = 0; topic < 8; topic++) {
      for (int bit = 0; bit < 8; bit++) {
        CorkageOnRemarks x = Check.at("g00010;g" + Check.digits(3, 1 << bit) + "10;rr00" + topic + "00;");
        s.is("topic " + topic + " is sent back by one who likes " + bit, x.of(0, 2), topic == bit ? 0 : 1);
      }
    }
    CorkageOnRemarks x = Check.at("g00111;g00212;", "g00413;g00814;", "g01615;g03216;rp05000;");
    for (int g = 0; g < 6; g++) {
      s.is("likes of guest " + g, x.guest(g, 0), 1 << g);
      s.is("mood of guest " + g, x.guest(g, 1), 11 + g);
    }
    s.is("round the table", x.remark(0, 7), 1);
    s.is("a seventh", Check.tell(x, "g00110;"), -2000);
  }

  private void remarks() {
    s.of(5, "REMARKS 0 .. as they come (7 at most): KIND, FIGURE (0 .. 9), the GUEST who brings it, a TOPIC,"
        + " READY (a MINUTE 0 .. 59).");
    CorkageOnRemarks x = Check.at("g00110;g00110;rh91759;rr00000;", "rw21301;rd31402;rp41503;", "rc51604;rr60258;");
    String[] due = {"5 9 1 7 59", "0 0 0 0 0", "1 2 1 3 1", "2 3 1 4 2", "3 4 1 5 3", "4 5 1 6 4", "0 6 0 2 58"};
    for (int r = 0; r < 7; r++) {
      String told = "";
      for (int what = 0; what < 5; what++) {
        told += (what == 0 ? "" : " ") + x.remark(r, what);
      }
      s.is("remark " + r, told, due[r]);
    }
    s.is("an eighth", Check.tell(x, "rr00000;"), -2000);
  }

  private void waitersAndCorkage() {
    s.of(9, "WAITERS (1 .. 3; 1 at first). CORKAGE (0 .. 9; 3 at first).");
    CorkageOnRemarks x = new CorkageOnRemarks();
    s.is("at first", x.set(0, 3) + " " + x.set(1, 9), "1 3");
    s.is("none above", x.set(0, 4) + " " + x.set(1, 10), "-6 -6");
    s.is("the most", x.set(0, 1) + " " + x.set(1, 0), "3 9");
    s.is("none below", x.set(0, 0) + " " + x.set(1, -1), "-4 -4");
    s.is("the least", x.count(2) + " " + x.count(3), "1 0");
  }

  private void statements() {
    s.of(3, "A TABLE is told in letters, one by one (96 at most): STATEMENTS, each with \";\" behind: \"g\" LIKES (3 digits),"
        + " MOOD (2 digits): a GUEST more; \"r\" a letter of a KIND, FIGURE, a GUEST, a TOPIC (a digit each),"
        + " READY (2 digits): a REMARK more; \"w\" WAITERS (a digit); \"c\" CORKAGE (a digit); \"x\" two GUESTS (a digit"
        + " each) change seats (all that is theirs, what they bring, too); \"m\" a GUEST (a digit), MOOD (2 digits)."
        + " At least one STATEMENT.");
    CorkageOnRemarks x = new CorkageOnRemarks();
    told(x, "g01207;", "w1 c3 g12/7");
    told(x, "g25540;", "w1 c3 g12/7 g255/40");
    told(x, "rp90123;", "w1 c3 g12/7 g255/40 r3,9,0,1,23");
    told(x, "w2;", "w2 c3 g12/7 g255/40 r3,9,0,1,23");
    told(x, "c8;", "w2 c8 g12/7 g255/40 r3,9,0,1,23");
    told(x, "x01;", "w2 c8 g255/40 g12/7 r3,9,1,1,23");
    told(x, "m139;", "w2 c8 g255/40 g12/39 r3,9,1,1,23");
    CorkageOnRemarks y = new CorkageOnRemarks();
    s.is("all of them", Check.tell(y, "g01207;g25540;rp90123;w2;c8;x01;m139;"), 7);
    s.is("all of them at once", Check.held(y), Check.held(x));
    s.is("none", y.table(), -1000);
    s.is("no \";\" behind", Check.tell(y, "w1"), -1002);
    s.is("another sign behind", Check.tell(y, "w1,w1;"), -1002);
  }

  private void told(CorkageOnRemarks x, String statement, String due) {
    s.is(statement, Check.tell(x, statement), 1);
    s.is("behind " + statement, Check.held(x), due);
  }

  private void faults() {
    s.of(3, "FAULT: kind 1 the place of the first letter with which no TABLE can go on (the end, if something lacks): -1000"
        + " less the place; else kind 2 the place of the first letter of the first STATEMENT that, behind all ahead of it in"
        + " the text, is not as it must be (a number out of range, no such GUEST ahead of it, one twice, no room for more):"
        + " -2000 less the place. Without FAULT all of it comes, with one nothing.");
    fault("g00000;w4;m100;x00;", -2007);
    fault("g00000;m100;x00;w4;", -2007);
    fault("g00000;x00;w4;m100;", -2007);
    fault("g00000;".repeat(7) + "w4;m900;", -2042);
    fault("g00000;w4;m100;x00", -1018);
    fault("g00000;w4;m1;x00;", -1012);
    CorkageOnRemarks x = new CorkageOnRemarks();
    s.is("without fault", Check.tell(x, "g00000;w3;m040;"), 3);
    s.is("all of it", Check.held(x), "w3 c3 g0/40");
  }

  private void fault(String text, int due) {
    CorkageOnRemarks x = new CorkageOnRemarks();
    s.is(text, Check.tell(x, text), due);
    s.is("nothing of " + text, Check.state(x), "w1 c3 row0 letters0");
  }

  private static final String LIST = "KINDS of REMARKS, MINUTES a WAITER takes, MOOD more of who hears and LIKES its TOPIC,"
      + " MOOD less of who does not, PRICE, who hears: r REMARK: 1; 1; 0; CORKAGE; all but who brings it. w WITTY under"
      + " REMARK: 1; 2; 0; half of CORKAGE, cut. d DULL under REMARK: 3; 0; 1; twice CORKAGE. p PROPOSAL under REMARK: 2;"
      + " FIGURE; FIGURE; as a REMARK's; the next GUEST round alone. c CRUSTED under DULL: FIGURE more than a DULL one; 2;"
      + " 1. h HOUSE under DULL: 1; 1; 1; FIGURE. Where it is not told as above them.";

  private void kinds() {
    s.of(5, LIST);
    kind("r4", 11, 21, 20, 7, 6);
    kind("w4", 11, 22, 20, 3, 6);
    kind("d4", 13, 20, 19, 14, 6);
    kind("p4", 12, 24, 20, 7, 2);
    kind("c4", 17, 22, 19, 14, 6);
    kind("h4", 11, 21, 19, 4, 6);
  }

  /** Ready at 10, heard by guest 1, who likes it, and, but for a proposal, by guest 2, who does not. */
  private void kind(String told, int opened, int likes, int doesNot, int price, int hearers) {
    CorkageOnRemarks x = Check.at("c7;g00020;g00120;g00020;r" + told + "0010;");
    s.is(told + " is opened", x.of(0, 1), opened);
    s.is(told + ": mood of who likes it", x.moodAt(1, 60), likes);
    s.is(told + ": mood of who does not", x.moodAt(2, 60), doesNot);
    s.is(told + ": mood of who brings it", x.moodAt(0, 60), 20);
    s.is(told + ": bill", x.bill(0), price);
    s.is(told + ": who hears", x.remark(0, 7), hearers);
  }

  // What a kind does not tell goes on with what the one above it tells as that changes.
  private void underOthers() {
    s.of(5, "Where it is not told as above them.");
    CorkageOnRemarks x = Check.at("g00110;g00110;g00110;rr51000;rp51000;rd51000;rc51000;rh51000;rw51000;");
    for (int corkage = 0; corkage <= 9; corkage++) {
      x.set(1, corkage);
      s.is("a proposal's price at " + corkage, x.remark(1, 6), x.remark(0, 6));
      s.is("a crusted one's price at " + corkage, x.remark(3, 6), x.remark(2, 6));
    }
    for (int r : new int[] {2, 3, 4, 5}) {
      s.is("who hears remark " + r, x.remark(r, 7), x.remark(0, 7));
    }
  }
}
