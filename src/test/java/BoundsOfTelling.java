/** Promises 1 to 3 at their bounds: a new object, letters, and the table that they tell. */
final class BoundsOfTelling {
  private static final String GUEST = "g00110;";
  private static final String REMARK = "rr00000;";
  private static final String SIX_GUESTS = GUEST.repeat(6);
  private static final String SEVEN_REMARKS = REMARK.repeat(7);

  // What fits at each place of each statement: # a digit, K the letter of a kind.
  private static final String[] FORMS = {"g#####;", "rK#####;", "w#;", "c#;", "x##;", "m###;"};
  private static final String[] WELL_FORMED = {"g00110;", "rr00000;", "w2;", "c5;", "x01;", "m012;"};

  private final Sentences s;

  BoundsOfTelling(Sentences sentences) {
    s = sentences;
  }

  void run() {
    newObject();
    letters();
    tooManyLetters();
    noStatement();
    firstLetters();
    lettersBehindTheFirst();
    endsThatLack();
    textsOfNinetySix();
    kindsOfFault();
    numbersOutOfRange();
    noSuchGuest();
    oneTwice();
    noRoomForGuests();
    noRoomForRemarks();
    placeOfTheStatement();
    withFaultNothing();
    statementsCounted();
    exchangedInText();
  }

  private void newObject() {
    CorkageOnRemarks x = new CorkageOnRemarks();
    s.of(1, "No GUESTS, no REMARKS.");
    s.is("guests", x.count(0), 0);
    s.is("remarks", x.count(1), 0);
    s.is("moods together", x.count(4), 0);
    s.is("all prices", x.count(5), 0);
    s.is("in the row", x.count(6), 0);
    s.is("letters", x.count(7), 0);
    s.is("refusals", Check.refusals(x), "0 0 0 0 0 0");
    s.of(1, "WAITERS (1 .. 3; 1 at first)");
    s.is("waiters", x.count(2), 1);
    s.of(1, "CORKAGE (0 .. 9; 3 at first)");
    s.is("corkage", x.count(3), 3);
    s.of(1, "ON from it all is as then");
    s.is("no image at first", x.on(), -3);
  }

  private void letters() {
    s.of(2, "A letter (0 .. 255) comes: how many there are.");
    for (int c = 0; c <= 255; c++) {
      CorkageOnRemarks x = new CorkageOnRemarks();
      s.is("letter " + c, x.letter(c), 1);
      s.is("letter " + c + " again", x.letter(c), 2);
      s.is("letters", x.count(7), 2);
    }
  }

  private void tooManyLetters() {
    s.of(2, "-4; -6 (255; 96, too).");
    CorkageOnRemarks x = new CorkageOnRemarks();
    for (int i = 1; i <= 96; i++) {
      s.is("letter number " + i, x.letter("w2;".charAt((i - 1) % 3)), i);
    }
    s.is("the ninety-seventh", x.letter('w'), -6);
    s.is("above 255 and no room", x.letter(256), -6);
    s.is("below 0 ahead of no room", x.letter(-1), -4);
    s.is("letters", x.count(7), 96);
    s.is("refusals", Check.refusals(x), "0 0 0 1 0 2");
    s.is("the ninety-six are as they came", x.table(), 32);
    s.is("waiters", x.count(2), 2);
    s.is("there is room again", x.letter('w'), 1);
  }

  private void noStatement() {
    s.of(3, "At least one STATEMENT.");
    s.is("no letter", new CorkageOnRemarks().table(), -1000);
    CorkageOnRemarks x = Check.at(GUEST);
    s.is("no letter, though there is a guest", x.table(), -1000);
    s.is("one statement", Check.tell(x, "c0;"), 1);
  }

  private void firstLetters() {
    s.of(3, "kind 1 the place of the first letter with which no TABLE can go on");
    for (int c = 0; c <= 255; c++) {
      boolean begins = "grwcxm".indexOf(c) >= 0;
      s.is("first letter " + c, fault("" + (char) c), begins ? -1001 : -1000);
      s.is("first letter " + c + " behind a statement", fault("c1;" + (char) c), begins ? -1004 : -1003);
    }
  }

  private static boolean fits(char place, int c) {
    switch (place) {
      case '#':
        return c >= '0' && c <= '9';
      case 'K':
        return "rwdpch".indexOf(c) >= 0;
      default:
        return c == place;
    }
  }

  // Whatever the letter, a fault of the first kind is at it or there is none: what comes behind it is well formed.
  private void lettersBehindTheFirst() {
    s.of(3, "kind 1 the place of the first letter with which no TABLE can go on");
    for (int form = 0; form < FORMS.length; form++) {
      for (int place = 1; place < FORMS[form].length(); place++) {
        for (int c = 0; c <= 255; c++) {
          String statement = WELL_FORMED[form];
          String text = statement.substring(0, place) + (char) c + statement.substring(place + 1);
          int answer = fault("c1;" + text);
          if (fits(FORMS[form].charAt(place), c)) {
            s.that("letter " + c + " at " + place + " of " + statement + " fits", answer == 2 || answer == -2003);
          } else {
            s.is("letter " + c + " at " + place + " of " + statement, answer, -1003 - place);
          }
        }
      }
    }
  }

  /** What table() answers at a table of two guests, without remarks. */
  private static int fault(String text) {
    return Check.tell(Check.at("g00110;g00110;"), text);
  }

  private void endsThatLack() {
    s.of(3, "(the end, if something lacks)");
    for (String statement : WELL_FORMED) {
      for (int length = 1; length < statement.length(); length++) {
        String text = statement.substring(0, length);
        s.is(text, fault(text), -1000 - length);
        s.is("w1;" + text, fault("w1;" + text), -1003 - length);
      }
      s.is("nothing lacks of " + statement, fault(statement), 1);
    }
  }

  private void textsOfNinetySix() {
    s.of(3, "A TABLE is told in letters, one by one (96 at most)");
    s.is("ninety-six letters", fault("c4;".repeat(32)), 32);
    s.of(3, "(the end, if something lacks)");
    s.is("ninety-six letters, the last is missing", fault("c4;".repeat(31) + "x01"), -1096);
    s.is("ninety-five letters", fault("c4;".repeat(31) + "c4"), -1095);
    s.of(3, "kind 1 the place of the first letter with which no TABLE can go on");
    s.is("the ninety-sixth letter", fault("c4;".repeat(31) + "c44"), -1095);
    s.of(3, "kind 2 the place of the first letter of the first STATEMENT");
    s.is("the thirty-second statement", fault("c4;".repeat(31) + "w0;"), -2093);
  }

  private void kindsOfFault() {
    s.of(3, "FAULT: kind 1 the place of the first letter with which no TABLE can go on (the end, if something lacks):"
        + " -1000 less the place; else kind 2");
    s.is("a stray letter behind a statement that is not as it must be", fault("w0;x"), -1004);
    s.is("a stray letter behind two of them", fault("x00;m999;c0;;"), -1000 - 12);
    s.is("a statement that is not as it must be, nothing stray", fault("w0;x01;"), -2000);
  }

  /** Tells every number of so many digits: those from the least to the greatest come, the others are faults. */
  private void numberOf(String words, String ahead, int digits, String behind, int least, int greatest) {
    int end = digits == 1 ? 10 : digits == 2 ? 100 : 1000;
    for (int v = 0; v < end; v++) {
      String text = ahead + Check.digits(digits, v) + behind;
      boolean isInRange = v >= least && v <= greatest;
      s.of(3, isInRange ? words : "a number out of range");
      s.is(text, fault(text), isInRange ? 1 : -2000);
    }
  }

  private void numbersOutOfRange() {
    numberOf("LIKES (TOPICS 0 .. 7 as bits 0 .. 255)", "g", 3, "10;", 0, 255);
    numberOf("MOOD (0 .. 40; 10 at first)", "g001", 2, ";", 0, 40);
    numberOf("MOOD (0 .. 40; 10 at first)", "m1", 2, ";", 0, 40);
    numberOf("FIGURE (0 .. 9)", "rp", 1, "0000;", 0, 9);
    numberOf("LIKES (TOPICS 0 .. 7 as bits 0 .. 255)", "rr01", 1, "00;", 0, 7);
    numberOf("READY (a MINUTE 0 .. 59)", "rr010", 2, ";", 0, 59);
    numberOf("WAITERS (1 .. 3; 1 at first)", "w", 1, ";", 1, 3);
    numberOf("CORKAGE (0 .. 9; 3 at first)", "c", 1, ";", 0, 9);
    s.of(3, "Without FAULT all of it comes");
    s.is("the greatest of each", Check.held(Check.at("g25540;w3;c9;rh90759;")), "w3 c9 g255/40 r5,9,0,7,59");
    s.is("the least of each", Check.held(Check.at("g00000;w1;c0;rr00000;")), "w1 c0 g0/0 r0,0,0,0,0");
  }

  private void noSuchGuest() {
    s.of(3, "no such GUEST ahead of it");
    for (int guests = 0; guests <= 6; guests++) {
      String ahead = "c1;" + GUEST.repeat(guests);
      int place = -2000 - ahead.length();
      for (int digit = 0; digit <= 9; digit++) {
        boolean is = digit < guests;
        String of = digit + " of " + guests;
        s.is("brings " + of, Check.tell(new CorkageOnRemarks(), ahead + "rr0" + digit + "000;"), is ? guests + 2 : place);
        s.is("mood of " + of, Check.tell(new CorkageOnRemarks(), ahead + "m" + digit + "10;"), is ? guests + 2 : place);
        boolean both = is && digit > 0;
        s.is("first and " + of, Check.tell(new CorkageOnRemarks(), ahead + "x0" + digit + ";"), both ? guests + 2 : place);
        s.is(of + " and first", Check.tell(new CorkageOnRemarks(), ahead + "x" + digit + "0;"), both ? guests + 2 : place);
      }
    }
    s.is("the guest comes behind it", Check.tell(new CorkageOnRemarks(), REMARK + GUEST), -2000);
    s.is("the guest was there ahead of the text", Check.tell(Check.at(GUEST), REMARK), 1);
  }

  private void oneTwice() {
    s.of(3, "one twice");
    for (int guest = 0; guest < 6; guest++) {
      s.is("guest " + guest, Check.tell(Check.at(SIX_GUESTS), "w1;x" + guest + guest + ";"), -2003);
    }
  }

  private void noRoomForGuests() {
    s.of(3, "GUESTS 0 .. as they come (6 at most)");
    s.is("six in one text", Check.tell(new CorkageOnRemarks(), SIX_GUESTS), 6);
    s.of(3, "no room for more");
    s.is("seven in one text", Check.tell(new CorkageOnRemarks(), SIX_GUESTS + GUEST), -2042);
    CorkageOnRemarks x = Check.at(SIX_GUESTS);
    s.is("a seventh in another text", Check.tell(x, "c2;" + GUEST), -2003);
    s.is("guests", x.count(0), 6);
    x = Check.at(GUEST.repeat(5));
    s.is("two more than five", Check.tell(x, GUEST + GUEST), -2007);
    s.is("one more than five", Check.tell(x, GUEST), 1);
  }

  private void noRoomForRemarks() {
    s.of(3, "REMARKS 0 .. as they come (7 at most)");
    s.is("seven in one text", Check.tell(new CorkageOnRemarks(), GUEST + SEVEN_REMARKS), 8);
    s.of(3, "no room for more");
    s.is("eight in one text", Check.tell(new CorkageOnRemarks(), GUEST + SEVEN_REMARKS + REMARK), -2000 - 7 - 56);
    CorkageOnRemarks x = Check.at(GUEST + SEVEN_REMARKS);
    s.is("an eighth in another text", Check.tell(x, "c2;" + REMARK), -2003);
    s.is("remarks", x.count(1), 7);
    x = Check.at(GUEST + REMARK.repeat(6));
    s.is("two more than six", Check.tell(x, REMARK + REMARK), -2008);
    s.is("one more than six", Check.tell(x, REMARK), 1);
  }

  private void placeOfTheStatement() {
    s.of(3, "kind 2 the place of the first letter of the first STATEMENT that, behind all ahead of it in the text, is not"
        + " as it must be");
    s.is("the first of two", fault("c0;w4;x00;"), -2003);
    s.is("the first of all", fault("g25600;w4;"), -2000);
    s.is("the last of many", fault("g00000;rr20000;w1;c0;x12;m240;g00041;"), -2000 - 7 - 8 - 3 - 3 - 4 - 5);
    s.is("what is ahead of it in the text helps", Check.tell(new CorkageOnRemarks(), "g00000;rr00000;g00000;x10;m140;"), 5);
  }

  private void withFaultNothing() {
    String all = "g00110;g00220;rr00005;w2;c5;";
    for (String text : new String[] {"g00000;rr00000;w3;c9;x01;m040;w0;", "g00000;rr00000;w3;c9;x01;m040;w", ""}) {
      CorkageOnRemarks x = Check.at(all);
      String before = Check.held(x);
      int answer = Check.tell(x, text);
      s.of(3, "Without FAULT all of it comes, with one nothing.");
      s.that("a fault in " + text, answer <= -1000);
      s.is("the table behind " + text, Check.held(x), before);
      s.of(3, "The letters become a TABLE, and are no more (with a FAULT neither)");
      s.is("letters behind " + text, x.count(7), 0);
      s.is("the next text begins anew", Check.tell(x, "w1;"), 1);
      s.of(3, "the FAULT (nothing is counted)");
      s.is("refusals behind " + text, Check.refusals(x), "0 0 0 0 0 0");
    }
  }

  private void statementsCounted() {
    s.of(3, "how many STATEMENTS");
    for (int n = 1; n <= 32; n++) {
      CorkageOnRemarks x = new CorkageOnRemarks();
      s.is("statements", Check.tell(x, "c0;".repeat(n)), n);
      s.is("letters are no more", x.count(7), 0);
    }
  }

  private void exchangedInText() {
    s.of(3, "change seats (all that is theirs, what they bring, too)");
    CorkageOnRemarks x = Check.at(SIX_GUESTS, "m000;m540;rr00000;rw05000;rd01000;");
    s.is("the first and the last", Check.tell(x, "x05;"), 1);
    s.is("moods", x.guest(0, 1) + " " + x.guest(5, 1), "40 0");
    s.is("who brings", x.remark(0, 2) + " " + x.remark(1, 2) + " " + x.remark(2, 2), "5 0 1");
    s.is("twice is as it was", Check.tell(x, "x50;"), 1);
    s.is("moods", x.guest(0, 1) + " " + x.guest(5, 1), "0 40");
    s.is("who brings", x.remark(0, 2) + " " + x.remark(1, 2) + " " + x.remark(2, 2), "0 5 1");
  }
}
