/** Promises 1 to 35, each by all of its words, at one table, and the words that promise nothing. */
final class WordsOfPromises {
  // Guest 1's proposal is for guest 2, who does not like it; at 59 the one waiter takes remark 1, so that remark 2 is
  // never opened. Remarks 0 and 1 are sent back; without remark 1 moods of all are 54 instead of 50.
  private static final String SUPPER = WordsOfEvenings.SUPPER;
  private static final String NEW = "w1 c3 row0 letters0";

  private final Sentences s;

  WordsOfPromises(Sentences sentences) {
    s = sentences;
  }

  void run() {
    newObject();
    letterAndTable();
    guestAndRemark();
    readyAndMood();
    changeAndSet();
    sumsAndOf();
    moodAtAndBill();
    withoutToFit();
    couldToSpare();
    coldToBusy();
    whoToPayments();
    odds();
    rowToClear();
    lots();
    imageAndOn();
    count();
    notPromised();
  }

  private void newObject() {
    s.of(1, "No GUESTS, no REMARKS.");
    s.is("a new object", Check.state(new CorkageOnRemarks()), NEW);
    Check.at(SUPPER).image();
    s.is("a new object beside another", Check.state(new CorkageOnRemarks()), NEW);
  }

  private void letterAndTable() {
    s.of(2, "A letter (0 .. 255) comes: how many there are. -4; -6 (255; 96, too).");
    CorkageOnRemarks x = new CorkageOnRemarks();
    s.is("letters", x.letter('w') + " " + x.letter('2') + " " + x.letter(';'), "1 2 3");
    s.is("no letters", x.letter(-1) + " " + x.letter(256), "-4 -6");
    s.of(3, "The letters become a TABLE, and are no more (with a FAULT neither): how many STATEMENTS; the FAULT (nothing is"
        + " counted).");
    s.is("one statement", x.table(), 1);
    s.is("the letters are no more", x.table(), -1000);
    s.is("a fault", Check.tell(x, "w3;w4;"), -2003);
    s.is("neither are these", Check.state(x), "w2 c3 row0 letters0");
    s.is("what was counted are the letters", Check.refusals(x), "0 0 0 1 0 1");
  }

  private void guestAndRemark() {
    s.of(4, "Of a GUEST: LIKES (what 0), MOOD (1). -1; -2.");
    CorkageOnRemarks x = Check.at(SUPPER);
    s.is("guest 3", x.guest(3, 0) + " " + x.guest(3, 1), "1 20");
    s.is("none", x.guest(4, 0) + " " + x.guest(3, 2), "-1 -2");
    s.of(5, "Of a REMARK: 0 KIND (0 r, 1 w, 2 d, 3 p, 4 c, 5 h), 1 FIGURE, 2 the GUEST, 3 TOPIC, 4 READY, 5 MINUTES, 6 PRICE,"
        + " 7 who hears (bits). -1; -2.");
    int[][] due = {{3, 5, 1, 0, 0, 2, 3, 4}, {0, 0, 0, 1, 59, 1, 3, 14}, {1, 0, 3, 2, 59, 1, 1, 7}};
    for (int r = 0; r < 3; r++) {
      for (int what = 0; what < 8; what++) {
        s.is("remark(" + r + ", " + what + ")", x.remark(r, what), due[r][what]);
      }
    }
    s.is("none", x.remark(3, 0) + " " + x.remark(2, 8), "-1 -2");
    String kinds = "rwdpch";
    for (int kind = 0; kind < 6; kind++) {
      s.is("kind " + kinds.charAt(kind), Check.at("g00110;r" + kinds.charAt(kind) + "00000;").remark(0, 0), kind);
    }
  }

  private void readyAndMood() {
    s.of(6, "READY becomes v: what it was. -1; -4; -6 59.");
    CorkageOnRemarks x = Check.at(SUPPER);
    s.is("remark 2 at 58", x.ready(2, 58), 59);
    s.is("it is opened", x.of(2, 1), 59);
    s.is("refused", x.ready(3, 0) + " " + x.ready(0, -1) + " " + x.ready(0, 60), "-1 -4 -6");
    s.of(7, "MOOD becomes v: what it was. -1; -4; -6 40.");
    s.is("guest 0 at 39", x.mood(0, 39), 10);
    s.is("he comes to 40", x.moodAt(0, 60), 40);
    s.is("refused", x.mood(4, 0) + " " + x.mood(0, -1) + " " + x.mood(0, 41), "-1 -4 -6");
  }

  private void changeAndSet() {
    s.of(8, "Two GUESTS change seats: LIKES of the first then. -1 either (one twice, too).");
    CorkageOnRemarks x = Check.at(SUPPER);
    s.is("1 and 2", x.change(1, 2), 4);
    s.is("who brings the proposal", x.remark(0, 2), 2);
    s.is("who hears it", x.remark(0, 7), 8);
    s.is("refused", x.change(4, 0) + " " + x.change(0, 4) + " " + x.change(1, 1), "-1 -1 -1");
    s.of(9, "WAITERS (what 0), CORKAGE (1) becomes v: what it was. -2; -4 (1; 0); -6 (3; 9).");
    s.is("what it was", x.set(0, 2) + " " + x.set(1, 8), "1 3");
    s.is("two waiters open all", x.sums(2), 3);
    s.is("at 8, 8 and half of 8", x.sums(1), 20);
    s.is("refused", x.set(2, 1) + " " + x.set(0, 0) + " " + x.set(1, -1) + " " + x.set(0, 4) + " " + x.set(1, 10),
        "-2 -4 -4 -6 -6");
  }

  private void sumsAndOf() {
    s.of(10, "Of an EVENING: 0 .. 4 as told. -2.");
    CorkageOnRemarks x = Check.at(SUPPER);
    int[] sums = {50, 6, 2, 2, 60};
    for (int what = 0; what < 5; what++) {
      s.is("sums(" + what + ")", x.sums(what), sums[what]);
    }
    s.is("refused", x.sums(5) + " " + x.sums(-1), "-2 -2");
    s.of(11, "Of a REMARK: 0 .. 2 as told. -1; -2.");
    int[][] due = {{0, 2, 1}, {59, 60, 1}, {-9, -9, 0}};
    for (int r = 0; r < 3; r++) {
      for (int what = 0; what < 3; what++) {
        s.is("of(" + r + ", " + what + ")", x.of(r, what), due[r][what]);
      }
    }
    s.is("refused", x.of(3, 0) + " " + x.of(0, 3), "-1 -2");
  }

  private void moodAtAndBill() {
    s.of(12, "MOOD behind a MINUTE (0 .. 60). -1; -4; -6 60.");
    CorkageOnRemarks x = Check.at(SUPPER);
    x.set(0, 2);
    s.is("guest 2", x.moodAt(2, 0) + " " + x.moodAt(2, 59) + " " + x.moodAt(2, 60), "10 10 12");
    s.is("refused", x.moodAt(4, 0) + " " + x.moodAt(0, -1) + " " + x.moodAt(0, 61), "-1 -4 -6");
    s.of(13, "His BILL. -1.");
    s.is("of each", x.bill(0) + " " + x.bill(1) + " " + x.bill(2) + " " + x.bill(3), "3 3 0 1");
    s.is("refused", x.bill(4), -1);
  }

  private void withoutToFit() {
    CorkageOnRemarks x = Check.at(SUPPER);
    CorkageOnRemarks nobody = new CorkageOnRemarks();
    s.of(14, "WITHOUT. Refused as told: -1.");
    s.is("each", x.without(0) + " " + x.without(1) + " " + x.without(2) + " " + x.without(3), "0 4 0 1000000001");
    s.of(15, "BEST MINUTE. -1.");
    s.is("each", x.bestMinute(0) + " " + x.bestMinute(1) + " " + x.bestMinute(2) + " " + x.bestMinute(3), "0 0 0 -1");
    s.is("too late to be opened", Check.at("g00010;g00110;g00210;rd00010;").bestMinute(0), 58);
    s.of(16, "ENOUGH; -9.");
    s.is("two", x.enough(), 2);
    s.is("never", Check.at("g00110;rc90059;").enough(), -9);
    s.of(17, "SWAP; -9.");
    s.is("1 and 2", x.swap(), 12);
    s.is("nobody", nobody.swap(), -9);
    s.of(18, "FIT; -9.");
    s.is("remark 0 by guest 0", x.fit(), 0);
    s.is("nobody", nobody.fit(), -9);
  }

  private void couldToSpare() {
    CorkageOnRemarks x = Check.at(SUPPER);
    s.of(19, "ALL COULD HAVE: TOPICS (what 0), how many (1). -2.");
    s.is("0 and 2, two guests", x.could(0) + " " + x.could(1) + " " + x.could(2), "5 2 -2");
    s.of(20, "DEAR; -9.");
    s.is("the least of two", x.dear(), 0);
    s.is("nothing", new CorkageOnRemarks().dear(), -9);
    s.of(21, "SPARE: bits (what 0), how many (1). -2.");
    s.is("0 and 1", x.spare(0) + " " + x.spare(1) + " " + x.spare(2), "3 2 -2");
  }

  private void coldToBusy() {
    CorkageOnRemarks x = Check.at(SUPPER);
    s.of(22, "KEEP COLD (bits).");
    s.is("remark 1", x.cold(), 2);
    s.of(23, "SILENCE: how long (what 0), from which MINUTE (1; -9 none). -2.");
    s.is("3 to 59", x.silence(0) + " " + x.silence(1) + " " + x.silence(2), "57 3 -2");
    s.of(24, "BUSY: some (what 0), all (1). -2.");
    x.set(0, 3);
    s.is("of three", x.busy(0) + " " + x.busy(1) + " " + x.busy(2), "3 0 -2");
  }

  private void whoToPayments() {
    CorkageOnRemarks x = Check.at(SUPPER);
    Check.rows(x, 10, 10, 15);
    s.of(25, "WHO by the ROW (it stays): KINDS (what 0, bits), TOPICS (1, bits). -1 either; -2.");
    s.is("guest 2 and the proposal", x.who(2, 0, 0) + " " + x.who(2, 0, 1), "0 4");
    s.is("refused", x.who(4, 0, 0) + " " + x.who(0, 3, 0) + " " + x.who(0, 0, 2), "-1 -1 -2");
    s.is("the row stays", x.clear(), 3);
    s.of(26, "HAGGLE; -9. -1 either (one twice, too).");
    s.is("0 and 3", x.haggle(0, 3), 11);
    s.is("2, who brings nothing, and 1", x.haggle(2, 1), 1);
    s.is("refused", x.haggle(4, 0) + " " + x.haggle(0, 4) + " " + x.haggle(2, 2), "-1 -1 -1");
    s.of(27, "SHARES.");
    s.is("from 2 and from 3", x.payments(), 2);
  }

  private void odds() {
    s.of(28, "ODDS, part 0 above, 1 below the line. Refused as told: -4 (t below 2; v); -6 (20; 240); -2.");
    CorkageOnRemarks x = Check.at(SUPPER);
    s.is("part 0", x.odds(3, 54, 0), 2);
    s.is("part 1", x.odds(3, 54, 1), 9);
    long less = 4000000000000000000L;
    s.is("t 1", x.odds(1, 54, 0), less + 4);
    s.is("v -1", x.odds(3, -1, 0), less + 4);
    s.is("t 21", x.odds(21, 54, 0), less + 6);
    s.is("v 241", x.odds(3, 241, 0), less + 6);
    s.is("part 2", x.odds(3, 54, 2), less + 2);
  }

  private void rowToClear() {
    CorkageOnRemarks x = Check.at(SUPPER);
    s.of(29, "A number more of the ROW (0 .. 99): how many. -4; -6 (99; 12, too).");
    s.is("two", x.row(1) + " " + x.row(99), "1 2");
    s.is("refused", x.row(-1) + " " + x.row(100), "-4 -6");
    s.of(30, "JUDGED; -9 (whichever it answers, the ROW has none then).");
    s.is("the second", x.judge(), 1);
    s.is("none then", x.judge(), -9);
    s.of(31, "The ROW has none then: how many it had.");
    x.row(1);
    s.is("one, then none", x.clear() + " " + x.clear(), "1 0");
  }

  private void lots() {
    s.of(32, "LOTS: MOODS (what 0), SENT BACK (1). -4; -6 20; -2.");
    CorkageOnRemarks x = Check.at(SUPPER);
    s.is("one evening", x.lots(1, 0, 0) + " " + x.lots(1, 0, 1), "54 2");
    s.is("refused", x.lots(0, 0, 0) + " " + x.lots(21, 0, 0) + " " + x.lots(1, 0, 2), "-4 -6 -2");
    s.is("nothing is other", Check.held(x), Check.held(Check.at(SUPPER)));
  }

  private void imageAndOn() {
    s.of(33, "THE IMAGE is taken: how many GUESTS.");
    CorkageOnRemarks x = Check.at(SUPPER);
    s.is("none yet", x.on(), -3);
    s.is("four", x.image(), 4);
    Check.tell(x, "g00110;");
    s.of(34, "ON from it: how many GUESTS. -3 there is none.");
    s.is("four again", x.on(), 4);
    s.is("as told", Check.held(x), Check.held(Check.at(SUPPER)));
  }

  private void count() {
    s.of(35, "0 GUESTS, 1 REMARKS, 2 WAITERS, 3 CORKAGE, 4 MOODS together now, 5 all PRICES, 6 in the ROW, 7 letters, 11 .. 16"
        + " REFUSALS -1 .. -6. -9 for another what.");
    CorkageOnRemarks x = Check.at(SUPPER);
    x.row(1);
    x.letter('w');
    x.letter('1');
    x.bill(4);
    x.sums(5);
    x.on();
    x.row(-1);
    x.row(100);
    int[] due = {4, 3, 1, 3, 50, 7, 1, 2, -9, -9, -9, 1, 1, 1, 1, 0, 1, -9};
    for (int what = 0; what < due.length; what++) {
      s.is("count(" + what + ")", x.count(what), due[what]);
    }
  }

  private void notPromised() {
    s.free("How the state is held inside the object is free, as are the speed of each call, the text of toString and the"
        + " behaviour of equals and hashCode. Use of one object from several threads at once is not promised to be safe."
        + " Nothing is promised beyond the answers and state changes described above, and nothing about an object after its"
        + " 512th call.");
  }
}
