import java.util.Arrays;
import java.util.function.ToLongFunction;

/** Checks under headings: each heading is a promise and the words of the document that the checks below it are of. */
final class Sentences {
  private static final int PROMISES = 35;

  private final Check check = new Check();
  private final boolean[] headed = new boolean[PROMISES + 1];
  private final String document;
  private final boolean[] quoted;
  private String heading = "";

  Sentences(String document) {
    this.document = onOneLine(sentencesOf(document));
    quoted = new boolean[this.document.length()];
  }

  // Titles, marks, the face and the signatures are no sentences; LanguageTest compares the latter two with the class.
  private static String sentencesOf(String document) {
    return document.replaceAll("(?s)```java.*?```", " ").replaceAll("```(text)?", " ").replaceAll("(?m)^#.*$", " ")
        .replaceAll("==== I+\\.", " ").replaceAll("(?m)^`[^`]*`:", " ");
  }

  private static String onOneLine(String text) {
    return text.replaceAll("\\s+", " ");
  }

  /** What comes next is of this promise and these words; words that the document does not have are an error. */
  void of(int promise, String words) {
    heading = "promise " + promise + ", \"" + words + "\": ";
    check.that(heading + "these words of the document", quote(words));
    headed[promise] = true;
  }

  /** What comes next in the document promises nothing, so that there is nothing to check. */
  void free(String words) {
    check.that("\"" + words + "\": these words of the document", quote(words));
  }

  private boolean quote(String words) {
    String line = onOneLine(words);
    int first = document.indexOf(line);
    for (int at = first; at >= 0; at = document.indexOf(line, at + 1)) {
      Arrays.fill(quoted, at, at + line.length(), true);
    }
    return first >= 0;
  }

  void is(String what, long got, long want) {
    check.same(heading + what, got, want);
  }

  void is(String what, String got, String want) {
    check.same(heading + what, got, want);
  }

  void that(String what, boolean holds) {
    check.that(heading + what, holds);
  }

  /** A refusal as most calls tell it. */
  void refuses(String what, ToLongFunction<CorkageOnRemarks> call, int refusal, String... table) {
    refuses(what, call, refusal, refusal, table);
  }

  /** The call answers what is due, one more refusal is counted, and nothing else is other than with a twin. */
  void refuses(String what, ToLongFunction<CorkageOnRemarks> call, int refusal, long due, String... table) {
    CorkageOnRemarks asked = busyObject(table);
    CorkageOnRemarks twin = busyObject(table);
    is(what, call.applyAsLong(asked), due);
    for (int number = 1; number <= 6; number++) {
      is(what + " counts refusals -" + number, asked.count(10 + number), number == -refusal ? 1 : 0);
    }
    is(what + " changes nothing", all(asked), all(twin));
  }

  // There is an image unlike the table, a row and a statement that lacks its end, so that a change of any shows.
  private static CorkageOnRemarks busyObject(String... table) {
    CorkageOnRemarks x = Check.at(table);
    x.image();
    x.set(0, 2);
    x.row(0);
    x.row(77);
    x.letter('w');
    x.letter('3');
    return x;
  }

  private static String all(CorkageOnRemarks x) {
    StringBuilder s = new StringBuilder(Check.state(x));
    s.append(" judged ").append(x.judge());
    x.letter(';');
    s.append(" table ").append(x.table()).append(" ").append(Check.held(x));
    return s.append(" on ").append(x.on()).append(" ").append(Check.held(x)).toString();
  }

  // A sentence that the document gets later is a failure until it has a heading, too.
  private void everyWordIsQuoted() {
    StringBuilder without = new StringBuilder();
    for (int at = 0; at < quoted.length; at++) {
      without.append(quoted[at] ? ' ' : document.charAt(at));
    }
    for (String words : without.toString().split("  +")) {
      check.that("\"" + words.trim() + "\" has a heading", words.chars().noneMatch(Character::isLetterOrDigit));
    }
  }

  void end(String name) {
    everyWordIsQuoted();
    for (int promise = 1; promise <= PROMISES; promise++) {
      check.that("promise " + promise + " has a heading", headed[promise]);
    }
    check.end(name);
  }
}
