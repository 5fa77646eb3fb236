/** Promises 10 to 13, 23 and 24 at their bounds: evenings, their first and last minutes, who hears, moods, silences. */
final class BoundsOfEvenings {
  private static final String NOBODY_HEARS = "g00110;";

  private final Sentences s;

  BoundsOfEvenings(Sentences sentences) {
    s = sentences;
  }

  void run() {
    emptyEvening();
    endAtSixtyOrAbove();
    neverOpened();
    readyAtLast();
    freeAsItIsOpened();
    readyThatMinuteOrAhead();
    readyFirst();
    waitersByNumbers();
    asManyLikeAsDoNot();
    neighbourAlone();
    sentBack();
    moodsAtBothEnds();
    moodsOfProposals();
    openedByNumbers();
    ofRemark();
    moodBehindMinutes();
    bills();
    silences();
    busyMinutes();
    busyWaiters();
  }

  private void sums(String what, CorkageOnRemarks x, int... due) {
    for (int i = 0; i < due.length; i++) {
      s.is(what + ": sums(" + i + ")", x.sums(i), due[i]);
    }
  }

  private void of(String what, CorkageOnRemarks x, int remark, int... due) {
    for (int i = 0; i < due.length; i++) {
      s.is(what + ": of(" + remark + ", " + i + ")", x.of(remark, i), due[i]);
    }
  }

  private void emptyEvening() {
    s.of(10, "MOODS of all together (0), the BILL (1), how many were OPENED (2), SENT BACK (3), the MINUTE of the last that"
        + " was OPENED (4; -9)");
    sums("nobody", new CorkageOnRemarks(), 0, 0, 0, 0, -9);
    sums("one who brings nothing", Check.at("g00040;"), 40, 0, 0, 0, -9);
    sums("six at 40", Check.at("g25540;".repeat(6)), 240, 0, 0, 0, -9);
    s.of(10, "0 .. 4 as told. -2.");
    s.is("sums(5)", new CorkageOnRemarks().sums(5), -2);
    s.is("sums(-1)", new CorkageOnRemarks().sums(-1), -2);
  }

  // Guest 1 likes what guest 0 brings; so many minutes ahead of 60 is the last in which it may be taken.
  private void endAtSixtyOrAbove() {
    s.of(10, "if that is above 60, it never is");
    for (int figure = 0; figure <= 9; figure++) {
      lastMinute("r" + figure, 1, 1, 3);
      lastMinute("w" + figure, 1, 2, 1);
      lastMinute("d" + figure, 3, 0, 6);
      lastMinute("p" + figure, 2, figure, 3);
      lastMinute("c" + figure, 3 + figure, 2, 6);
      lastMinute("h" + figure, 1, 1, figure);
    }
  }

  private void lastMinute(String remark, int minutes, int more, int price) {
    int last = 60 - minutes;
    CorkageOnRemarks x = Check.at("g00010;g00110;r" + remark + "00" + last + ";");
    sums(remark + " ready at " + last, x, 20 + more, price, 1, 0, 60);
    of(remark + " ready at " + last, x, 0, last, 60, 0);
    s.is(remark + ": mood behind 59", x.moodAt(1, 59), 10);
    s.is(remark + ": mood behind 60", x.moodAt(1, 60), 10 + more);
    s.is(remark + ": bill", x.bill(0), price);
    if (minutes > 1) {
      x.ready(0, last + 1);
      sums(remark + " ready at " + (last + 1), x, 20, 0, 0, 0, -9);
      of(remark + " ready at " + (last + 1), x, 0, last + 1, -9, 0);
      s.is(remark + ": mood behind 60", x.moodAt(1, 60), 10);
      s.is(remark + ": bill", x.bill(0), 0);
    }
  }

  private void neverOpened() {
    s.of(10, "if that is above 60, it never is");
    String nobodyLikes = "g00010;g00010;";
    sums("in time it is sent back", Check.at(nobodyLikes + "rd00057;"), 20, 6, 1, 1, 60);
    sums("too late it is not", Check.at(nobodyLikes + "rd00058;"), 20, 0, 0, 0, -9);
    s.of(11, "Of a REMARK: the MINUTE in which it was taken (0; -9), OPENED (1; -9), 1 it was SENT BACK (2).");
    of("in time", Check.at(nobodyLikes + "rd00057;"), 0, 57, 60, 1);
    of("too late", Check.at(nobodyLikes + "rd00058;"), 0, 58, -9, 0);
    s.of(10, "AN EVENING: MINUTES 0 .. 59: in each");
    CorkageOnRemarks x = Check.at(NOBODY_HEARS + "rp00058;rr00059;");
    sums("nothing is taken in minute 60", x, 10, 3, 1, 0, 60);
    of("free at 60", x, 1, -9, -9, 0);
    x = Check.at(NOBODY_HEARS + "rd00058;rr00059;");
    sums("a waiter who is late takes nothing more", x, 10, 0, 0, 0, -9);
  }

  private void readyAtLast() {
    s.of(10, "READY (a MINUTE 0 .. 59)");
    sums("at 0", Check.at(NOBODY_HEARS + "rr00000;"), 10, 3, 1, 0, 1);
    sums("at 59", Check.at(NOBODY_HEARS + "rr00059;"), 10, 3, 1, 0, 60);
    sums("seven at 59 for three", Check.at("w3;" + NOBODY_HEARS + "rr00059;".repeat(7)), 10, 9, 3, 0, 60);
  }

  private void freeAsItIsOpened() {
    s.of(11, "it is OPENED at the end of as many MINUTES as he takes (MINUTE and them; he is free then;");
    CorkageOnRemarks x = Check.at(NOBODY_HEARS + "rp00000;rd00000;rc90000;rr00000;");
    of("two minutes", x, 0, 0, 2);
    of("three minutes", x, 1, 2, 5);
    of("twelve minutes", x, 2, 5, 17);
    of("one minute", x, 3, 17, 18);
  }

  private void readyThatMinuteOrAhead() {
    s.of(11, "READY (that MINUTE or ahead) and not taken");
    for (int v = 0; v <= 59; v++) {
      of("ready at " + v, Check.at(NOBODY_HEARS + "rr000" + Check.digits(2, v) + ";"), 0, v, v + 1);
    }
    CorkageOnRemarks x = Check.at("w3;" + NOBODY_HEARS + "rr00010;");
    sums("it is taken once", x, 10, 3, 1, 0, 11);
  }

  private void readyFirst() {
    s.of(11, "he takes the one that was READY first, of several the least");
    CorkageOnRemarks x = Check.at(NOBODY_HEARS + "rr00003;rr00002;rd00000;rr00002;rr00001;");
    of("the one that takes three minutes", x, 2, 0, 3);
    of("ready at 1", x, 4, 3, 4);
    of("the lesser that was ready at 2", x, 1, 4, 5);
    of("the greater that was ready at 2", x, 3, 5, 6);
    of("ready at 3", x, 0, 6, 7);
  }

  private void waitersByNumbers() {
    s.of(11, "as long as a WAITER is free (by numbers)");
    for (int waiters = 1; waiters <= 3; waiters++) {
      CorkageOnRemarks x = Check.at("w" + waiters + ";" + NOBODY_HEARS + "rr00000;".repeat(7));
      for (int r = 0; r < 7; r++) {
        of("with " + waiters, x, r, r / waiters, r / waiters + 1);
      }
    }
  }

  // Guest 0 brings it; the next ones like it, the rest do not. Whether he likes it himself is all the same.
  private void asManyLikeAsDoNot() {
    s.of(10, "SENT BACK, if of those who hear it more do not LIKE its TOPIC than do");
    for (int like = 0; like <= 5; like++) {
      for (int not = 0; like + not <= 5; not++) {
        for (String bringer : new String[] {"g00010;", "g00110;"}) {
          CorkageOnRemarks x = Check.at(bringer + "g00110;".repeat(like) + "g25410;".repeat(not), "rr00000;");
          boolean back = not > like;
          String what = like + " like it, " + not + " do not, the bringer is " + bringer;
          of(what, x, 0, 0, 1, back ? 1 : 0);
          sums(what, x, 10 + 10 * (like + not) + (back ? 0 : like), 3, 1, back ? 1 : 0, 1);
        }
      }
    }
  }

  private void neighbourAlone() {
    s.of(10, "the next GUEST round alone");
    sums("the next likes it, the others do not", Check.at("g00010;g00110;g00010;rp90000;"), 39, 3, 1, 0, 2);
    sums("the next does not, the others do", Check.at("g00110;g00010;g00110;rp90000;"), 30, 3, 1, 1, 2);
    sums("the first is the last's next", Check.at("g00110;g00010;g00010;rp92000;"), 39, 3, 1, 0, 2);
    sums("nobody is next", Check.at("g00010;rp90000;"), 10, 3, 1, 0, 2);
  }

  private void sentBack() {
    s.of(10, "(no MOOD is other then, PRICE is paid all the same)");
    String oneOfThree = "g00010;g00110;g00010;g00010;c9;";
    sums("remark", Check.at(oneOfThree + "rr00000;"), 40, 9, 1, 1, 1);
    sums("witty", Check.at(oneOfThree + "rw00000;"), 40, 4, 1, 1, 1);
    sums("dull", Check.at(oneOfThree + "rd00000;"), 40, 18, 1, 1, 3);
    sums("crusted", Check.at(oneOfThree + "rc90000;"), 40, 18, 1, 1, 12);
    sums("house", Check.at(oneOfThree + "rh70000;"), 40, 7, 1, 1, 1);
    sums("proposal", Check.at("g00010;g00010;g00110;c9;rp90000;"), 30, 9, 1, 1, 2);
    s.of(13, "(no MOOD is other then, PRICE is paid all the same)");
    s.is("bill", Check.at(oneOfThree + "rd00000;").bill(0), 18);
  }

  private static int within(int mood) {
    return mood < 0 ? 0 : mood > 40 ? 40 : mood;
  }

  // Of those who hear it guest 1 likes it and guest 2 does not.
  private void moodsAtBothEnds() {
    String kinds = "rwdch";
    int[] more = {1, 2, 0, 2, 1};
    int[] less = {0, 0, 1, 1, 1};
    s.of(12, "else MOODS become as told (0 .. 40)");
    for (int k = 0; k < kinds.length(); k++) {
      for (int mood = 0; mood <= 40; mood++) {
        String told = Check.digits(2, mood);
        CorkageOnRemarks x = Check.at("g00017;g001" + told + ";g254" + told + ";r" + kinds.charAt(k) + "00000;");
        String what = kinds.charAt(k) + " at " + mood;
        s.is(what + ": who likes it", x.moodAt(1, 60), within(mood + more[k]));
        s.is(what + ": who does not", x.moodAt(2, 60), within(mood - less[k]));
        s.is(what + ": who brings it", x.moodAt(0, 60), 17);
        s.is(what + ": all", x.sums(0), 17 + within(mood + more[k]) + within(mood - less[k]));
      }
    }
  }

  private void moodsOfProposals() {
    s.of(12, "else MOODS become as told (0 .. 40)");
    for (int figure = 0; figure <= 9; figure++) {
      for (int mood = 0; mood <= 40; mood++) {
        CorkageOnRemarks x = Check.at("g00017;g001" + Check.digits(2, mood) + ";rp" + figure + "0000;");
        s.is("proposal of " + figure + " at " + mood, x.moodAt(1, 60), within(mood + figure));
      }
    }
  }

  // Two are opened in minute 3: the witty one gives guest 1 two, the crusted one takes one off him.
  private void openedByNumbers() {
    s.of(12, "As it is OPENED (at one MINUTE by numbers, ahead of all that is taken in it)");
    String guests = "w2;g00010;g00139;g00200;";
    s.is("more first, from 39", Check.at(guests + "rw00002;rc00100;").moodAt(1, 3), 39);
    s.is("less first, from 39", Check.at(guests + "rc00100;rw00002;").moodAt(1, 3), 40);
    guests = "w2;g00010;g00100;g00200;";
    s.is("more first, from 0", Check.at(guests + "rw00002;rc00100;").moodAt(1, 3), 1);
    s.is("less first, from 0", Check.at(guests + "rc00100;rw00002;").moodAt(1, 3), 2);
  }

  private void ofRemark() {
    s.of(11, "Of a REMARK: the MINUTE in which it was taken (0; -9), OPENED (1; -9), 1 it was SENT BACK (2).");
    CorkageOnRemarks x = Check.at("g00010;g00110;rr00059;rr00059;");
    of("the last that is taken", x, 0, 59, 60, 0);
    of("never taken", x, 1, -9, -9, 0);
    of("taken in minute 0", Check.at(NOBODY_HEARS + "rr00000;"), 0, 0, 1, 0);
    s.of(11, "Of a REMARK: 0 .. 2 as told. -1; -2.");
    s.is("remark 2 of two", x.of(2, 0), -1);
    s.is("remark -1", x.of(-1, 0), -1);
    s.is("of(0, 3)", x.of(0, 3), -2);
    s.is("of(0, -1)", x.of(0, -1), -2);
  }

  private void moodBehindMinutes() {
    s.of(12, "MOOD behind a MINUTE (0 .. 60).");
    CorkageOnRemarks x = Check.at("g00010;g00110;rr00000;rr00029;rr00059;");
    for (int minute = 0; minute <= 60; minute++) {
      int opened = (minute >= 1 ? 1 : 0) + (minute >= 30 ? 1 : 0) + (minute >= 60 ? 1 : 0);
      s.is("behind " + minute, x.moodAt(1, minute), 10 + opened);
    }
    s.of(12, "-1; -4; -6 60.");
    s.is("behind 61", x.moodAt(1, 61), -6);
    s.is("behind -1", x.moodAt(1, -1), -4);
    s.is("guest 2 of two", x.moodAt(2, 0), -1);
  }

  private void bills() {
    s.of(13, "his BILL (what he brought and was OPENED)");
    s.is("nothing brought", Check.at(NOBODY_HEARS).bill(0), 0);
    CorkageOnRemarks x = Check.at("g00110;g00110;rh90059;rh81059;rh70000;");
    s.is("opened in minute 60, too", x.bill(0), 16);
    s.is("not opened is not paid", x.bill(1), 0);
    x.set(0, 2);
    s.is("by two waiters it is opened", x.bill(1), 8);
    s.is("corkage 0", Check.at("c0;" + NOBODY_HEARS + "rr00000;rd00000;").bill(0), 0);
    s.is("seven dull ones at 9", Check.at("c9;" + NOBODY_HEARS + "rd00000;".repeat(7)).bill(0), 126);
    s.of(13, "His BILL. -1.");
    s.is("guest 2 of two", x.bill(2), -1);
    s.is("guest -1", x.bill(-1), -1);
    s.is("guest 0 of none", new CorkageOnRemarks().bill(0), -1);
  }

  private void silence(String what, CorkageOnRemarks x, int length, int from) {
    s.is(what + ": how long", x.silence(0), length);
    s.is(what + ": from which minute", x.silence(1), from);
  }

  private void silences() {
    s.of(23, "the longest run of MINUTES (0 .. 60) in a row in which nothing is OPENED");
    silence("nobody", new CorkageOnRemarks(), 61, 0);
    silence("opened in minute 60 alone", Check.at(NOBODY_HEARS + "rr00059;"), 60, 0);
    silence("opened in minute 1 alone", Check.at(NOBODY_HEARS + "rr00000;"), 59, 2);
    silence("taken and never opened", Check.at(NOBODY_HEARS + "rc90059;"), 61, 0);
    silence("opened in minute 31", Check.at(NOBODY_HEARS + "rr00030;"), 31, 0);
    silence("opened in minute 29", Check.at(NOBODY_HEARS + "rr00028;"), 31, 30);
    silence("twenty, eighteen and twenty-one", Check.at(NOBODY_HEARS + "rr00019;rr00038;"), 21, 40);
    s.of(23, "the first MINUTE of the first such");
    silence("thirty minutes twice", Check.at(NOBODY_HEARS + "rr00029;"), 30, 0);
    silence("one minute, then twenty-nine twice", Check.at(NOBODY_HEARS + "rr00000;rr00030;"), 29, 2);
    s.of(23, "how long (what 0), from which MINUTE (1; -9 none)");
    silence("seven remarks can leave no less",
        Check.at(NOBODY_HEARS + "rr00006;rr00014;rr00022;rr00030;rr00037;rr00044;rr00052;"), 7, 0);
    s.is("silence(2)", new CorkageOnRemarks().silence(2), -2);
    s.is("silence(-1)", new CorkageOnRemarks().silence(-1), -2);
  }

  private void busy(String what, CorkageOnRemarks x, int some, int all) {
    s.is(what + ": some", x.busy(0), some);
    s.is(what + ": all", x.busy(1), all);
  }

  private void busyMinutes() {
    s.of(24, "BUSY: how many MINUTES (0 .. 59) some WAITER is not free in; all are not.");
    busy("nobody", new CorkageOnRemarks(), 0, 0);
    busy("in minute 0", Check.at(NOBODY_HEARS + "rr00000;"), 1, 1);
    busy("in minute 59", Check.at(NOBODY_HEARS + "rr00059;"), 1, 1);
    busy("twelve, to the end", Check.at(NOBODY_HEARS + "rc90048;"), 12, 12);
    busy("eleven of twelve", Check.at(NOBODY_HEARS + "rc90049;"), 11, 11);
    busy("one of twelve", Check.at(NOBODY_HEARS + "rc90059;"), 1, 1);
    busy("all minutes", Check.at(NOBODY_HEARS + "rc70000;".repeat(6)), 60, 60);
    busy("more than all minutes", Check.at(NOBODY_HEARS + "rc90000;".repeat(7)), 60, 60);
    s.is("busy(2)", new CorkageOnRemarks().busy(2), -2);
    s.is("busy(-1)", new CorkageOnRemarks().busy(-1), -2);
  }

  private void busyWaiters() {
    s.of(24, "BUSY: how many MINUTES (0 .. 59) some WAITER is not free in; all are not.");
    String three = NOBODY_HEARS + "rd00000;rp00000;rr00000;";
    busy("one after the other", Check.at("w1;" + three), 6, 6);
    busy("three minutes and two and one", Check.at("w2;" + three), 3, 3);
    busy("three at once", Check.at("w3;" + three), 3, 1);
    busy("two of three", Check.at("w3;" + NOBODY_HEARS + "rd00000;rd00000;"), 3, 0);
  }
}
