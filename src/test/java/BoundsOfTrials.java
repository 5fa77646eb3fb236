/** Promises 14 to 22 and 25 to 28 at their bounds: what would be, and which of several is answered. */
final class BoundsOfTrials {
  private static final String ALONE = "g00110;";
  private static final String LIKED = "g00010;g00110;";

  private final Sentences s;

  BoundsOfTrials(Sentences sentences) {
    s = sentences;
  }

  void run() {
    without();
    bestMinute();
    enough();
    swap();
    swapOfSeveral();
    fit();
    fitOfSeveral();
    could();
    dear();
    spare();
    cold();
    whoWithoutRow();
    whoWithTwelve();
    whoFirstAndLast();
    haggle();
    haggleNone();
    shares();
    sharesOfRest();
    oddsOfNothing();
    oddsInLeastTerms();
    oddsAtBounds();
  }

  private void without() {
    s.of(14, "how much more MOODS of all are (may be below 0)");
    s.is("one who likes it hears it", Check.at(LIKED + "rr00000;").without(0), -1);
    s.is("a proposal of 9", Check.at(LIKED + "rp90000;").without(0), -9);
    s.is("more without a dull one", Check.at(LIKED + "g00010;rd00000;").without(0), 1);
    s.is("nobody hears it", Check.at(ALONE + "rr00000;").without(0), 0);
    s.is("mood is 40 anyway", Check.at("g00010;g00140;rr00000;").without(0), 0);
    s.is("it is never opened anyway", Check.at(LIKED + "rc90059;").without(0), 0);
    s.of(14, "Of without() REFUSALS are 1000000000 less them (-1 is told as 1000000001)");
    CorkageOnRemarks x = Check.at(LIKED + "rr00000;".repeat(7));
    s.is("remark 7 of seven", x.without(7), 1000000001);
    s.is("remark -1", x.without(-1), 1000000001);
    s.is("they count as refusals -1", Check.refusals(x), "2 0 0 0 0 0");
    s.is("remark 6 of seven", x.without(6), -1);
  }

  private void bestMinute() {
    s.of(15, "MOODS of all most, of several the least");
    s.is("all minutes are as good", Check.at(LIKED + "rr00030;").bestMinute(0), 0);
    s.is("all minutes are as good, being 0", Check.at("g00000;g00000;rr00030;").bestMinute(0), 0);
    // In minute 13 the dull one takes one off guest 1; opened behind it, the witty one lifts him to 40 again.
    CorkageOnRemarks x = Check.at("g00000;g00140;g00200;rw00000;rd00110;");
    s.is("from 11 on as good", x.bestMinute(0), 11);
    s.is("moods of 0, from 11 on 1", Check.at("g00000;g00100;g00200;rr00000;rd00110;").bestMinute(0), 11);
    s.of(15, "BEST MINUTE for one to be READY (0 .. 59)");
    // Ready by 58 it is opened and guest 2 loses one; at 59 the waiter has taken the proposal.
    s.is("the last minute alone", Check.at("g00000;g00140;g00210;rh00000;rp00058;").bestMinute(0), 59);
    // The others are sent back; taken ahead of it, they leave it no minute.
    s.is("the first minute alone", Check.at(LIKED + "rr00059;" + "rc90100;".repeat(5)).bestMinute(0), 0);
    s.of(15, "BEST MINUTE. -1.");
    s.is("remark 2 of two", x.bestMinute(2), -1);
    s.is("remark -1", x.bestMinute(-1), -1);
  }

  private void enough() {
    s.of(16, "ENOUGH: the least WAITERS (1 .. 3) by which all are OPENED; -9.");
    s.is("no remarks", new CorkageOnRemarks().enough(), 1);
    for (int remarks = 1; remarks <= 7; remarks++) {
      for (int waiters = 1; waiters <= 3; waiters++) {
        CorkageOnRemarks x = Check.at("w" + waiters + ";" + ALONE + "rr00059;".repeat(remarks));
        s.is(remarks + " ready at 59, waiters " + waiters, x.enough(), remarks <= 3 ? remarks : -9);
        s.is("waiters stay", x.count(2), waiters);
      }
    }
    s.is("it ends at 60", Check.at(ALONE + "rc90048;").enough(), 1);
    s.is("it ends at 61", Check.at(ALONE + "rc90049;").enough(), -9);
  }

  private void swap() {
    s.of(17, "makes MOODS of all most, more than now; of several the least; -9");
    s.is("no guest", new CorkageOnRemarks().swap(), -9);
    s.is("one guest", Check.at(ALONE + "rp90000;").swap(), -9);
    s.is("two are each other's next anyway", Check.at("g00010;g00110;rp90000;").swap(), -9);
    s.is("as much as now is not more", Check.at("g00010;g00110;g00110;rp90000;").swap(), -9);
    s.is("one more is more", Check.at("g00010;g00132;g00131;rp90000;").swap(), 1);
    s.of(17, "(10 the lesser and the other)");
    // Guest 4 does not like what guest 3 brings; guest 5 does. Guest 3 likes what guest 2 brings.
    CorkageOnRemarks x = Check.at("g00010;g00010;g00010;g00210;g00010;g00110;rp53000;rp92100;");
    s.is("the last two", x.swap(), 45);
    s.is("seats stay", x.guest(4, 0) + " " + x.guest(5, 0), "0 1");
  }

  private void swapOfSeveral() {
    s.of(17, "of several the least");
    // Each change puts one who likes it next to who brings it.
    s.is("all three changes", Check.at("g00110;g00010;g00110;rp50000;").swap(), 1);
    // Guest 3 alone likes it: guest 0 comes to seat 2 or 3, or guest 3 to seat 1.
    s.is("0 and 2, 0 and 3, 1 and 3", Check.at("g00010;g00010;g00010;g00110;rp50000;").swap(), 2);
    s.of(17, "the two GUESTS (10 the lesser and the other) whose change of seats makes MOODS of all most");
    s.is("the most of several that are more", Check.at("g00010;g00010;g00138;g00010;g00110;rp50000;").swap(), 3);
  }

  private void fit() {
    s.of(18, "the REMARK that, brought by another GUEST, makes MOODS most, more than now");
    s.is("nobody, nothing", new CorkageOnRemarks().fit(), -9);
    s.is("no remark", Check.at(LIKED).fit(), -9);
    s.is("no other guest", Check.at(ALONE + "rr00000;").fit(), -9);
    s.is("as much as now is not more", Check.at("g00110;g00110;rr00000;").fit(), -9);
    s.is("one more is more", Check.at("g00110;g00010;rr00000;").fit(), 1);
    s.of(18, "10 times it and the GUEST, of several the least; -9");
    // Nobody likes topic 7. The last guest alone does not like topic 0, so all others are to hear it.
    CorkageOnRemarks x = Check.at("g00110;".repeat(5) + "g00010;", "rr00700;".repeat(6) + "rr00000;");
    s.is("the last remark and the last guest", x.fit(), 65);
    s.is("who brings it stays", x.remark(6, 2), 0);
  }

  private void fitOfSeveral() {
    s.of(18, "10 times it and the GUEST, of several the least");
    s.is("two remarks", Check.at("g00110;g00010;rr00000;rr00000;").fit(), 1);
    s.is("two guests", Check.at("g00110;g00010;g00010;g00110;g00110;rr00000;").fit(), 1);
    s.is("two guests, the first of them", Check.at("g00010;g00010;g00110;g00110;g00110;rr02000;").fit(), 0);
    s.of(18, "makes MOODS most, more than now");
    s.is("the second remark makes more", Check.at("g00110;g00010;g00110;rr00000;rw00000;").fit(), 11);
  }

  private void could() {
    s.of(19, "TOPICS (bits) that most GUESTS LIKE; how many do");
    CorkageOnRemarks x = new CorkageOnRemarks();
    s.is("nobody: topics", x.could(0), 255);
    s.is("nobody: how many", x.could(1), 0);
    x = Check.at("g00010;g00010;");
    s.is("nobody likes any: topics", x.could(0), 255);
    s.is("nobody likes any: how many", x.could(1), 0);
    x = Check.at("g12810;g12710;");
    s.is("each topic one: topics", x.could(0), 255);
    s.is("each topic one: how many", x.could(1), 1);
    x = Check.at("g12810;g12910;");
    s.is("the last topic: topics", x.could(0), 128);
    s.is("the last topic: how many", x.could(1), 2);
    x = Check.at("g00110;g00310;g25410;g00110;g25510;g25510;");
    s.is("the first topic: topics", x.could(0), 1);
    s.is("the first topic: how many", x.could(1), 5);
    x = Check.at("g25510;".repeat(6));
    s.is("all like all: topics", x.could(0), 255);
    s.is("all like all: how many", x.could(1), 6);
    s.of(19, "ALL COULD HAVE: TOPICS (what 0), how many (1). -2.");
    s.is("could(2)", x.could(2), -2);
    s.is("could(-1)", x.could(-1), -2);
  }

  private void dear() {
    s.of(20, "the REMARK with the greatest PRICE, of several the least; -9");
    s.is("nothing", new CorkageOnRemarks().dear(), -9);
    s.is("a guest, no remark", Check.at(ALONE).dear(), -9);
    s.is("all cost 0", Check.at("c0;" + ALONE + "rr00000;rd00000;rh00000;").dear(), 0);
    s.is("all cost as much", Check.at(ALONE + "rr00000;".repeat(7)).dear(), 0);
    s.is("the second and the third", Check.at(ALONE + "rr00000;rd00000;rc00000;rh60000;").dear(), 1);
    s.is("the last", Check.at(ALONE + "rr00000;".repeat(6) + "rh40000;").dear(), 6);
    s.is("one that is never opened, too", Check.at(ALONE + "rr00000;rc90059;").dear(), 1);
  }

  // There is never more than one such set of the fewest: one left out only lets others be opened sooner.
  private void spare() {
    s.of(21, "the fewest REMARKS (bits) to leave out so that nothing is SENT BACK, of several the least bits; how many");
    s.is("nothing: bits", new CorkageOnRemarks().spare(0), 0);
    s.is("nothing: how many", new CorkageOnRemarks().spare(1), 0);
    CorkageOnRemarks x = Check.at(LIKED + "rr00000;".repeat(7));
    s.is("nothing is sent back: bits", x.spare(0), 0);
    s.is("nothing is sent back: how many", x.spare(1), 0);
    x = Check.at("g00010;g00010;" + "rr00000;".repeat(7));
    s.is("all are sent back: bits", x.spare(0), 127);
    s.is("all are sent back: how many", x.spare(1), 7);
    x = Check.at("g00010;g00010;rc90049;rr00049;");
    s.is("never opened: bits", x.spare(0), 0);
    x = Check.at("g00010;g00010;rr00059;rr00059;");
    s.is("one left out lets the other be opened: bits", x.spare(0), 3);
    s.is("one left out lets the other be opened: how many", x.spare(1), 2);
    x = Check.at(LIKED + "rr00000;rr01000;rr00000;rr01000;");
    s.is("what guest 0 does not like: bits", x.spare(0), 10);
    s.is("what guest 0 does not like: how many", x.spare(1), 2);
    s.of(21, "SPARE: bits (what 0), how many (1). -2.");
    s.is("spare(2)", x.spare(2), -2);
    s.is("spare(-1)", x.spare(-1), -2);
  }

  private void cold() {
    s.of(22, "with which MOODS of all are most, of several the fewest, then least");
    s.is("nothing", new CorkageOnRemarks().cold(), 0);
    s.is("none is as good as any", Check.at(ALONE + "rr00000;".repeat(7)).cold(), 0);
    s.is("moods of 0", Check.at("g00000;g00000;rr00000;").cold(), 0);
    s.is("moods of 0, without the dull one 1", Check.at("g00000;g00100;g00200;rr00000;rd00110;").cold(), 2);
    s.is("sent back is as good as left out", Check.at("g00010;g00010;rr00000;").cold(), 0);
    s.is("all seven", Check.at(LIKED + "g00010;" + "rd00000;".repeat(7)).cold(), 127);
    // Either of the first two left out lets the witty one be opened; with both left out it is less.
    s.is("the least of two", Check.at("w2;" + LIKED + "rr00059;rr00059;rw00059;").cold(), 1);
    s.is("the second or the third", Check.at("w3;" + LIKED + "rw00059;rr00059;rr00059;rw00059;").cold(), 2);
    s.is("two of three", Check.at(LIKED + "rr00059;rr00059;rw00059;").cold(), 3);
    // Guest 1 comes to 40 by the witty one alone or by the two others.
    s.is("the fewest are none", Check.at("g00010;g00138;rw00000;rr00000;rr00000;").cold(), 0);
    // He comes to 40 without the dull one, or without the first two, in whose stead the witty one is opened.
    s.is("one that is greater, or two that are lesser",
        Check.at("g00010;g00139;g00200;rr00059;rr00059;rd00110;rw00059;").cold(), 4);
  }

  private void whoWithoutRow() {
    s.of(25, "KINDS (bits) of a REMARK by which all of it is so; TOPICS (bits) of it");
    CorkageOnRemarks x = Check.at(LIKED + "rr00000;");
    s.is("no number: kinds", x.who(1, 0, 0), 63);
    s.is("no number: topics", x.who(1, 0, 1), 255);
    Check.rows(x, 41);
    s.is("no such mood: kinds", x.who(1, 0, 0), 0);
    s.is("no such mood: topics", x.who(1, 0, 1), 0);
  }

  // What is opened in minute 11 is the twelfth number; what is opened in minute 12 is none.
  private void whoWithTwelve() {
    s.of(25, "a ROW tells MOOD of one (behind MINUTES 0, 1, ..; 12 at most)");
    CorkageOnRemarks x = Check.at(LIKED + "rr50010;");
    Check.rows(x, 10, 10, 10, 10, 10, 10, 10, 10, 10, 10, 10, 10);
    s.is("nothing by minute 11: kinds", x.who(1, 0, 0), 4 + 8 + 16);
    s.is("nothing by minute 11: topics", x.who(1, 0, 1), 254);
    x.clear();
    Check.rows(x, 10, 10, 10, 10, 10, 10, 10, 10, 10, 10, 10, 11);
    s.is("one in minute 11: kinds", x.who(1, 0, 0), 1 + 32);
    s.is("one in minute 11: topics", x.who(1, 0, 1), 1);
    x.ready(0, 11);
    s.is("opened in minute 12", x.who(1, 0, 0), 0);
    s.of(25, "WHO by the ROW (it stays)");
    s.is("in the row", x.count(6), 12);
  }

  private void whoFirstAndLast() {
    s.of(25, "KINDS (bits) of a REMARK by which all of it is so");
    CorkageOnRemarks x = Check.at(LIKED + "rr00000;");
    Check.rows(x, 9, 11);
    s.is("the first is not so", x.who(1, 0, 0), 0);
    x.clear();
    Check.rows(x, 10, 11, 12);
    s.is("the last is not so", x.who(1, 0, 0), 0);
    x.clear();
    Check.rows(x, 10, 11, 11);
    s.is("all is so", x.who(1, 0, 0), 1 + 32);
    x = Check.at("g00010;".repeat(5) + "g00110;", "rr05700;".repeat(6) + "rp94000;");
    Check.rows(x, 10, 10, 10, 10, 10, 10, 10, 10, 19);
    s.is("the last of six and the last of seven: kinds", x.who(5, 6, 0), 8);
    s.is("the last of six and the last of seven: topics", x.who(5, 6, 1), 1);
    s.of(25, "-1 either; -2.");
    s.is("guest 6 of six", x.who(6, 0, 0), -1);
    s.is("remark 7 of seven", x.who(0, 7, 0), -1);
    s.is("what 2", x.who(0, 0, 2), -2);
  }

  private void haggle() {
    s.of(26, "the first pair (10 the first's choice and the other's) by which neither has more by another one alone");
    s.is("nothing to bring, so all are such", Check.at("g00110;g00110;").haggle(0, 1), 0);
    s.is("as much is not more", Check.at("c0;g00110;g00110;rr00000;rr01000;").haggle(1, 0), 0);
    s.is("one more is more", Check.at("g00110;g00110;rh10000;").haggle(0, 1), 10);
    s.is("the other has one more", Check.at("g00110;g00110;rh10000;").haggle(1, 0), 1);
    s.is("each has one more", Check.at("g00110;g00110;rh10000;rh11000;").haggle(0, 1), 11);
    // There is time for one proposal alone: as both do, for guest 0's, so that he has more by bringing nothing.
    CorkageOnRemarks x = Check.at("c0;g00110;g00110;rp90058;rp91058;");
    s.is("1, 10 and 11 are such", x.haggle(0, 1), 1);
    s.is("1, 10 and 11 are such, the other first", x.haggle(1, 0), 1);
    x = Check.at("g00110;".repeat(6), "rh00000;".repeat(6) + "rh15000;");
    s.is("the last of six and the last of seven", x.haggle(4, 5), 1);
    s.is("the last of six first", x.haggle(5, 4), 10);
    s.of(26, "HAGGLE; -9. -1 either (one twice, too).");
    s.is("one twice", x.haggle(5, 5), -1);
    s.is("guest 6 of six", x.haggle(0, 6), -1);
    s.is("guest 6 of six first", x.haggle(6, 0), -1);
    s.is("guest -1", x.haggle(-1, 0), -1);
  }

  // All cost 0. As both do: 0 and 38. The first alone brings nothing: 2 and 38. Both: 2 and 40. The other alone: 3 and 37.
  // So the first would rather bring nothing, then the other, then the first bring his again, then the other.
  private void haggleNone() {
    s.of(26, "by which neither has more by another one alone; -9");
    CorkageOnRemarks x = Check.at("c0;g00101;g00238;g00338;rc31150;rp52150;rc12156;rd90051;rp22051;");
    s.is("round and round", x.haggle(0, 1), -9);
    s.is("round and round, the other first", x.haggle(1, 0), -9);
  }

  private void shares() {
    s.of(27, "how few payments from one to one (as large as need be) settle that");
    s.is("nobody", new CorkageOnRemarks().payments(), 0);
    s.is("one alone", Check.at(ALONE + "rd00000;").payments(), 0);
    s.is("nothing is brought", Check.at("g00110;".repeat(6)).payments(), 0);
    s.is("never opened is not paid", Check.at("g00110;g00110;rc90059;").payments(), 0);
    s.is("each paid as much", Check.at("g00110;g00110;g00110;rr00000;rr01000;rr02000;").payments(), 0);
    s.is("one paid for six", Check.at("g00110;".repeat(6), "rh60000;").payments(), 5);
    s.is("three pairs", Check.at("g00110;".repeat(6), "rh20000;rh21000;rh22000;").payments(), 3);
    s.is("a pair and a three", Check.at("g00110;".repeat(5), "rh50000;rh51000;rh42000;rh13000;").payments(), 3);
  }

  // Of a rest guest 0 pays one more, then guest 1, and so on.
  private void sharesOfRest() {
    s.of(27, "(cut; GUESTS 0, 1, .. one more each, till nothing is over)");
    String three = "g00110;g00110;g00110;";
    s.is("one, paid by guest 0", Check.at(three + "rh10000;").payments(), 0);
    s.is("one, paid by guest 1", Check.at(three + "rh11000;").payments(), 1);
    s.is("one, paid by guest 2", Check.at(three + "rh12000;").payments(), 1);
    s.is("two, one each by guests 0 and 1", Check.at(three + "rh10000;rh11000;").payments(), 0);
    s.is("two, one each by guests 1 and 2", Check.at(three + "rh11000;rh12000;").payments(), 1);
    s.is("two, paid by guest 0", Check.at(three + "rh20000;").payments(), 1);
    s.is("two, paid by guest 2", Check.at(three + "rh22000;").payments(), 2);
    s.is("four, two by guest 0", Check.at(three + "rh20000;rh11000;rh12000;").payments(), 0);
    s.is("four, two by guest 2", Check.at(three + "rh10000;rh11000;rh22000;").payments(), 1);
    s.is("five of six", Check.at("g00110;".repeat(6), "rh10000;rh11000;rh12000;rh13000;rh14000;").payments(), 0);
    s.is("five of six, none by the first",
        Check.at("g00110;".repeat(6), "rh11000;rh12000;rh13000;rh14000;rh15000;").payments(), 1);
  }

  private void odds(String what, CorkageOnRemarks x, int t, int v, long above, long below) {
    s.is(what + ": above", x.odds(t, v, 0), above);
    s.is(what + ": below", x.odds(t, v, 1), below);
  }

  private void oddsOfNothing() {
    s.of(28, "Fractions are told in least terms; 0 as 0 by 1.");
    odds("nobody, 0 or more", new CorkageOnRemarks(), 2, 0, 1, 1);
    odds("nobody, 1 or more", new CorkageOnRemarks(), 2, 1, 0, 1);
    odds("nobody, 240 or more", new CorkageOnRemarks(), 20, 240, 0, 1);
    CorkageOnRemarks x = Check.at(LIKED + "rr00000;".repeat(7));
    odds("seven, above what can be", x, 20, 28, 0, 1);
    odds("seven, as much as there is anyway", x, 20, 20, 1, 1);
    odds("six at 40, 240 or more", Check.at("g25540;".repeat(6)), 2, 240, 1, 1);
    odds("six, one at 39, 240 or more", Check.at("g25540;".repeat(5) + "g25539;"), 2, 240, 0, 1);
  }

  private void oddsInLeastTerms() {
    s.of(28, "Fractions are told in least terms");
    CorkageOnRemarks two = Check.at(LIKED + "rr00000;rr00000;");
    odds("both, 1 in 2", two, 2, 22, 1, 4);
    odds("one of two or both, 1 in 2", two, 2, 21, 3, 4);
    odds("both, 1 in 4", two, 4, 22, 9, 16);
    odds("one of two or both, 1 in 4", two, 4, 21, 15, 16);
    CorkageOnRemarks three = Check.at(LIKED + "rr00000;rr00000;rr00000;");
    odds("two of three or all: 4 of 8", three, 2, 22, 1, 2);
    odds("two of three or all: 54 of 64", three, 4, 22, 27, 32);
    odds("two of three or all: 972 of 1000", three, 10, 22, 243, 250);
  }

  private void oddsAtBounds() {
    s.of(28, "forgotten with odds 1 in t (2 .. 20)");
    CorkageOnRemarks x = Check.at(LIKED + "rr00000;".repeat(7));
    odds("seven, 1 in 2", x, 2, 27, 1, 128);
    odds("seven, 1 in 20", x, 20, 27, 893871739L, 1280000000L);
    odds("one or more of seven, 1 in 20", x, 20, 21, 1279999999L, 1280000000L);
    s.of(28, "-4 (t below 2; v); -6 (20; 240); -2.");
    long less = 4000000000000000000L;
    s.is("1 in 1", x.odds(1, 0, 0), less + 4);
    s.is("1 in 21", x.odds(21, 0, 0), less + 6);
    s.is("-1 or more", x.odds(2, -1, 0), less + 4);
    s.is("241 or more", x.odds(2, 241, 0), less + 6);
    s.is("part 2", x.odds(2, 0, 2), less + 2);
    s.is("part -1", x.odds(2, 0, -1), less + 2);
    s.of(28, "of longs 4000000000000000000 less them (-1 as 4000000000000000001)");
    s.is("they count as refusals", Check.refusals(x), "0 2 0 2 0 2");
  }
}
