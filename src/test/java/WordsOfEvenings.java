/** The document from AN EVENING to its REFUSALS: each sentence whole, and what would be otherwise if it did not hold. */
final class WordsOfEvenings {
  // Guest 1's proposal is for guest 2, who does not like it; at 59 the one waiter takes remark 1, so that remark 2 is
  // never opened. Remarks 0 and 1 are sent back.
  static final String SUPPER = "g00610;g00110;g00410;g00120;rp51000;rr00159;rw03259;";

  private final Sentences s;

  WordsOfEvenings(Sentences sentences) {
    s = sentences;
  }

  void run() {
    taken();
    opened();
    toldOfIt();
    what();
    whatIsLeftOut();
    byOneAndTheOther();
    rows();
    image();
    fractions();
    refusals();
  }

  // Two waiters: at 5 both are free, at 7 one is, at 8 both; what is taken at 56 takes five minutes.
  private void taken() {
    s.of(11, "AN EVENING: MINUTES 0 .. 59: in each, as long as a WAITER is free (by numbers) and a REMARK is READY (that"
        + " MINUTE or ahead) and not taken, he takes the one that was READY first, of several the least; it is OPENED at the"
        + " end of as many MINUTES as he takes (MINUTE and them; he is free then; if that is above 60, it never is).");
    CorkageOnRemarks x = Check.at("w2;g00110;rd00005;rp00005;rr00004;rr00005;rc90007;rr00059;rc20056;");
    int[] taken = {5, 5, 4, 7, 8, 59, 56};
    int[] opened = {8, 7, 5, 8, 20, 60, -9};
    for (int r = 0; r < 7; r++) {
      s.is("remark " + r + " is taken", x.of(r, 0), taken[r]);
      s.is("remark " + r + " is opened", x.of(r, 1), opened[r]);
    }
  }

  // In minute 60 the dull one takes nothing off guest 2, who has 0, and the witty one gives guest 1 one, to 40.
  private static CorkageOnRemarks lateEvening() {
    return Check.at("w2;g00005;g00139;g00200;rd00057;rw00059;rr00710;");
  }

  private void opened() {
    s.of(12, "As it is OPENED (at one MINUTE by numbers, ahead of all that is taken in it): SENT BACK, if of those who hear"
        + " it more do not LIKE its TOPIC than do (no MOOD is other then, PRICE is paid all the same); else MOODS become as"
        + " told (0 .. 40). (The end of the EVENING is MINUTE 60.)");
    CorkageOnRemarks x = lateEvening();
    int[] before = {5, 39, 0};
    int[] end = {5, 40, 0};
    for (int g = 0; g < 3; g++) {
      s.is("mood of guest " + g + " behind 11", x.moodAt(g, 11), before[g]);
      s.is("mood of guest " + g + " behind 59", x.moodAt(g, 59), before[g]);
      s.is("mood of guest " + g + " behind 60", x.moodAt(g, 60), end[g]);
    }
    s.is("price of what is sent back", x.bill(0), 6 + 1 + 3);
    x = Check.at("w2;g00010;g00139;g00200;rw00002;rc00100;rr00203;");
    s.is("two in minute 3, then the next is taken", x.of(0, 1) + " " + x.of(1, 1) + " " + x.of(2, 0), "3 3 3");
    s.is("40 by the first, one less by the second", x.moodAt(1, 3), 39);
  }

  private void toldOfIt() {
    s.of(10, "Of an EVENING: MOODS of all together (0), the BILL (1), how many were OPENED (2), SENT BACK (3), the MINUTE of"
        + " the last that was OPENED (4; -9). Of a REMARK: the MINUTE in which it was taken (0; -9), OPENED (1; -9), 1 it was"
        + " SENT BACK (2). MOOD of one at the end; behind a MINUTE (0 .. 60); his BILL (what he brought and was OPENED).");
    CorkageOnRemarks x = lateEvening();
    int[] sums = {45, 10, 3, 1, 60};
    for (int what = 0; what < 5; what++) {
      s.is("sums(" + what + ")", x.sums(what), sums[what]);
    }
    int[][] remarks = {{57, 60, 0}, {59, 60, 0}, {10, 11, 1}};
    for (int r = 0; r < 3; r++) {
      for (int what = 0; what < 3; what++) {
        s.is("of(" + r + ", " + what + ")", x.of(r, what), remarks[r][what]);
      }
    }
    s.is("moods at the end", x.moodAt(0, 60) + x.moodAt(1, 60) + x.moodAt(2, 60), x.sums(0));
    s.is("behind minute 0", x.moodAt(1, 0), 39);
    s.is("bill of who brought them", x.bill(0), 10);
    s.is("bill of who brought nothing", x.bill(1), 0);
  }

  private void what() {
    s.of(14, "WITHOUT a REMARK: how much more MOODS of all are (may be below 0). BEST MINUTE for one to be READY (0 .. 59):"
        + " MOODS of all most, of several the least. ENOUGH: the least WAITERS (1 .. 3) by which all are OPENED; -9. SWAP: the"
        + " two GUESTS (10 the lesser and the other) whose change of seats makes MOODS of all most, more than now; of several"
        + " the least; -9. FIT: the REMARK that, brought by another GUEST, makes MOODS most, more than now: 10 times it and"
        + " the GUEST, of several the least; -9.");
    CorkageOnRemarks x = Check.at(SUPPER);
    s.is("now", x.sums(0), 50);
    s.is("without remark 1 the witty one is opened", x.without(1), 4);
    s.is("without the witty one", x.without(2), 0);
    s.is("below 0", Check.at("g00110;g00110;rr00000;").without(0), -1);
    s.is("any minute ahead of 59", x.bestMinute(2), 0);
    s.is("two waiters", x.enough(), 2);
    s.is("1 and 2, or 2 and 3", x.swap(), 12);
    s.is("the proposal by guest 0 or 2", x.fit(), 0);
    x.change(1, 2);
    s.is("by the change of 1 and 2", x.sums(0), 55);
    s.is("no change is more then", x.swap(), -9);
    s.is("nor another guest", x.fit(), -9);
  }

  private void whatIsLeftOut() {
    s.of(21, "ALL COULD HAVE: TOPICS (bits) that most GUESTS LIKE; how many do. DEAR: the REMARK with the greatest PRICE, of"
        + " several the least; -9. SPARE: the fewest REMARKS (bits) to leave out so that nothing is SENT BACK, of several the"
        + " least bits; how many. KEEP COLD: the set of REMARKS (bits) to leave out with which MOODS of all are most, of"
        + " several the fewest, then least. SILENCE: the longest run of MINUTES (0 .. 60) in a row in which nothing is"
        + " OPENED; the first MINUTE of the first such. BUSY: how many MINUTES (0 .. 59) some WAITER is not free in; all are"
        + " not.");
    CorkageOnRemarks x = Check.at(SUPPER);
    s.is("topics 0 and 2", x.could(0), 5);
    s.is("two like either", x.could(1), 2);
    s.is("remarks 0 and 1 cost as much", x.dear(), 0);
    s.is("both are sent back", x.spare(0), 3);
    s.is("two", x.spare(1), 2);
    s.is("remark 1, or 0 and 1", x.cold(), 2);
    s.is("from 3 to 59", x.silence(0) + " " + x.silence(1), "57 3");
    s.is("0, 1 and 59", x.busy(0) + " " + x.busy(1), "3 3");
    x.set(0, 2);
    s.is("both in 59 alone", x.busy(0) + " " + x.busy(1), "3 1");
  }

  // Each pays 1 of 6, guests 0 and 1 one more; guests 0 and 1 paid 3 each.
  private void byOneAndTheOther() {
    s.of(26, "WHO: a ROW tells MOOD of one (behind MINUTES 0, 1, ..; 12 at most): KINDS (bits) of a REMARK by which all of it"
        + " is so; TOPICS (bits) of it. HAGGLE: each of two GUESTS chooses to bring nothing (1) or as he does (0): each has"
        + " MOOD at the end less his BILL: the first pair (10 the first's choice and the other's) by which neither has more by"
        + " another one alone; -9. SHARES: each paid his own BILL; each is to pay the same part of it all (cut; GUESTS 0, 1,"
        + " .. one more each, till nothing is over): how few payments from one to one (as large as need be) settle that. ODDS:"
        + " each REMARK is forgotten with odds 1 in t (2 .. 20), by itself: how likely MOODS of all are v (0 .. 240) or more:"
        + " a fraction.");
    CorkageOnRemarks x = Check.at(SUPPER);
    Check.rows(x, 10, 10, 15);
    s.is("no kind of topic 0", x.who(2, 0, 0), 0);
    s.is("a proposal of topic 2", x.who(2, 0, 1), 4);
    x.clear();
    Check.rows(x, 10, 10, 10);
    s.is("any kind of topic 0", x.who(2, 0, 0), 63);
    s.is("a proposal of any other topic", x.who(2, 0, 1), 255 - 4);
    s.is("0 and 3 bring nothing", x.haggle(0, 3), 11);
    s.is("one payment from 2, one from 3", x.payments(), 2);
    s.is("remark 1 is forgotten, the witty one is not", x.odds(3, 54, 0) + " of " + x.odds(3, 54, 1), "2 of 9");
    s.is("no more than that", x.odds(3, 55, 0) + " of " + x.odds(3, 55, 1), "0 of 1");
    s.is("no less than now", x.odds(3, 50, 0) + " of " + x.odds(3, 50, 1), "1 of 1");
  }

  // Draws from 0 are 23, 57, 6, 59, 49 and 50: at the first evening remark 2 is opened, then remark 1 and remark 0, which
  // are sent back; at the second remarks 1 and 2, and the proposal never is.
  private void rows() {
    s.of(32, "A ROW of numbers (0 .. 99; 12 at most): JUDGED: how many were OPENED by the end of MINUTES 5, 10, ..: the first"
        + " that is not so; -9. LOTS with a seed z: n evenings (1 .. 20), READY of each REMARK a DRAW below 60: all MOODS"
        + " together; how many were SENT BACK. A DRAW below m: z becomes z times 1664525 and 1013904223 (an int); (z without"
        + " its sign's bit by 256, cut) modulo m.");
    CorkageOnRemarks x = Check.at(SUPPER);
    Check.rows(x, 1, 1, 1, 1, 1, 1, 1, 1, 1, 1, 1, 2);
    s.is("all is so", x.judge(), -9);
    Check.rows(x, 1, 1, 0, 99);
    s.is("the third is not", x.judge(), 2);
    s.is("moods of one", x.lots(1, 0, 0), 54);
    s.is("sent back at one", x.lots(1, 0, 1), 2);
    s.is("moods of two", x.lots(2, 0, 0), 108);
    s.is("sent back at two", x.lots(2, 0, 1), 3);
  }

  private void image() {
    s.of(34, "THE IMAGE: all that there is, but it, the ROW, letters, REFUSALS; ON from it all is as then.");
    CorkageOnRemarks x = Check.at(SUPPER);
    String then = Check.held(x);
    x.image();
    Check.tell(x, "w3;c9;x12;m040;g25540;rr04700;");
    x.ready(0, 30);
    x.row(7);
    x.letter('w');
    x.guest(9, 0);
    x.on();
    s.is("as then, but the row and letters", Check.state(x), then + " row1 letters1");
    s.is("but refusals", Check.refusals(x), "1 0 0 0 0 0");
    s.is("the image is there still", x.on(), 4);
  }

  private void fractions() {
    s.of(28, "Fractions are told in least terms; 0 as 0 by 1.");
    CorkageOnRemarks x = Check.at(SUPPER);
    s.is("12 of 64", x.odds(4, 54, 0) + " of " + x.odds(4, 54, 1), "3 of 16");
    s.is("64 of 64", x.odds(4, 0, 0) + " of " + x.odds(4, 0, 1), "1 of 1");
    s.is("0 of 64", x.odds(4, 240, 0) + " of " + x.odds(4, 240, 1), "0 of 1");
  }

  private void refusals() {
    s.of(35, "REFUSALS (the call answers the number, the first that fits in the order in which it tells them; nothing changes"
        + " but how many there were): -1 NOBODY: no such GUEST, REMARK. -2 OTHER: what, KIND. -3 STATE: it is not as it must"
        + " be. -4 BELOW: a number below the least. -6 ROOM: a number above the greatest, no room. Of without() REFUSALS are"
        + " 1000000000 less them (-1 is told as 1000000001); of longs 4000000000000000000 less them (-1 as"
        + " 4000000000000000001).");
    CorkageOnRemarks x = Check.at(SUPPER);
    String before = Check.state(x);
    s.is("no such guest, no such number", x.mood(4, 41), -1);
    s.is("no such remark, no such what", x.remark(3, 8), -1);
    s.is("no such what, no such number", x.set(2, -1), -2);
    s.is("no image", x.on(), -3);
    s.is("below, no such part", x.odds(1, 241, 2), 4000000000000000004L);
    s.is("above, no such part", x.odds(20, 241, 2), 4000000000000000006L);
    s.is("no such part", x.odds(20, 240, 2), 4000000000000000002L);
    s.is("no such remark", x.without(3), 1000000001);
    s.is("nothing changes", Check.state(x), before);
    s.is("but how many there were", Check.refusals(x), "3 2 1 1 0 1");
  }
}
