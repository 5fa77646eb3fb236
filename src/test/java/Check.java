/** What the tests share: comparing, telling letters, and a print of all that an object holds. */
final class Check {
  private int wrong = 0;

  void same(String what, long got, long want) {
    if (got != want) {
      wrong++;
      System.out.println(what + " answered " + got + ", due is " + want);
    }
  }

  void same(String what, String got, String want) {
    if (!got.equals(want)) {
      wrong++;
      System.out.println(what + " is\n  " + got + ", due is\n  " + want);
    }
  }

  void that(String what, boolean holds) {
    if (!holds) {
      wrong++;
      System.out.println(what + " does not hold");
    }
  }

  void end(String name) {
    System.out.println(name + ": " + (wrong == 0 ? "all as due" : wrong + " not as due"));
    if (wrong != 0) {
      System.exit(1);
    }
  }

  static int tell(CorkageOnRemarks x, String text) {
    for (int i = 0; i < text.length(); i++) {
      x.letter(text.charAt(i));
    }
    return x.table();
  }

  /** An object to which these texts were told, each at once. */
  static CorkageOnRemarks at(String... texts) {
    CorkageOnRemarks x = new CorkageOnRemarks();
    for (String text : texts) {
      int answer = tell(x, text);
      if (answer < 1) {
        throw new IllegalStateException("the test's own table is at fault: " + answer + " " + text);
      }
    }
    return x;
  }

  /** A number told in so many digits. */
  static String digits(int count, int number) {
    StringBuilder s = new StringBuilder(Integer.toString(number));
    while (s.length() < count) {
      s.insert(0, '0');
    }
    return s.toString();
  }

  static void rows(CorkageOnRemarks x, int... numbers) {
    for (int number : numbers) {
      x.row(number);
    }
  }

  /** Guests, remarks, waiters and corkage: what an image holds. */
  static String held(CorkageOnRemarks x) {
    StringBuilder s = new StringBuilder();
    s.append("w").append(x.count(2)).append(" c").append(x.count(3));
    for (int g = 0; g < x.count(0); g++) {
      s.append(" g").append(x.guest(g, 0)).append("/").append(x.guest(g, 1));
    }
    for (int r = 0; r < x.count(1); r++) {
      s.append(" r");
      for (int what = 0; what < 5; what++) {
        s.append(what == 0 ? "" : ",").append(x.remark(r, what));
      }
    }
    return s.toString();
  }

  /** All of that, and how many are in the row and of letters, but not the refusals. */
  static String state(CorkageOnRemarks x) {
    return held(x) + " row" + x.count(6) + " letters" + x.count(7);
  }

  static String refusals(CorkageOnRemarks x) {
    StringBuilder s = new StringBuilder();
    for (int what = 11; what <= 16; what++) {
      s.append(what == 11 ? "" : " ").append(x.count(what));
    }
    return s.toString();
  }
}
