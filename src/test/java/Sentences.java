import java.util.function.ToLongFunction;

/** Checks under headings: each heading is a promise and the words of the document that the checks below it are of. */
final class Sentences {
  private static final int PROMISES = 35;

  private final Check check = new Check();
  private final boolean[] headed = new boolean[PROMISES + 1];
  private final String document;
  private String heading = "";

  Sentences(String document) {
    this.document = onOneLine(document);
  }

  private static String onOneLine(String text) {
    return text.replaceAll("\\s+", " ");
  }

  /** What comes next is of this promise and these words; words that the document does not have are an error. */
  void of(int promise, String words) {
    heading = "promise " + promise + ", \"" + words + "\": ";
    check.that(heading + "these words of the document", document.contains(onOneLine(words)));
    headed[promise] = true;
  }

  void is(String what, long got, long want) {
    check.same(heading + what, got, want);
  }

  void is(String what, String got, String want) {
    check.same(heading + what, got, want);
  }

  void that(String what, boolean holds) {
    check.that(heading + what, holds);
  }

  /** A refusal as most calls tell it. */
  void refuses(String what, ToLongFunction<CorkageOnRemarks> call, int refusal, String... table) {
    refuses(what, call, refusal, refusal, table);
  }

  /** The call answers what is due, one more refusal is counted, and nothing else is other than with a twin. */
  void refuses(String what, ToLongFunction<CorkageOnRemarks> call, int refusal, long due, String... table) {
    CorkageOnRemarks asked = busyObject(table);
    CorkageOnRemarks twin = busyObject(table);
    is(what, call.applyAsLong(asked), due);
    for (int number = 1; number <= 6; number++) {
      is(what + " counts refusals -" + number, asked.count(10 + number), number == -refusal ? 1 : 0);
    }
    is(what + " changes nothing", all(asked), all(twin));
  }

  // There is an image unlike the table, a row and a statement that lacks its end, so that a change of any shows.
  private static CorkageOnRemarks busyObject(String... table) {
    CorkageOnRemarks x = Check.at(table);
    x.image();
    x.set(0, 2);
    x.row(0);
    x.row(77);
    x.letter('w');
    x.letter('3');
    return x;
  }

  private static String all(CorkageOnRemarks x) {
    StringBuilder s = new StringBuilder(Check.state(x));
    s.append(" judged ").append(x.judge());
    x.letter(';');
    s.append(" table ").append(x.table()).append(" ").append(Check.held(x));
    return s.append(" on ").append(x.on()).append(" ").append(Check.held(x)).toString();
  }

  void end(String name) {
    for (int promise = 1; promise <= PROMISES; promise++) {
      check.that("promise " + promise + " has a heading", headed[promise]);
    }
    check.end(name);
  }
}
