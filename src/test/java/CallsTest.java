import java.io.PrintWriter;
import java.io.StringWriter;
import java.util.Map;
import java.util.Set;
import java.util.TreeMap;
import java.util.TreeSet;
import java.util.regex.Matcher;
import java.util.regex.Pattern;
import java.util.spi.ToolProvider;

/** The rules of ../shared/LANGUAGE.md on what calls what and what is made, as the compiled class shows them. */
public final class CallsTest {
  private static final Check CHECK = new Check();
  private static final int DEEPEST = 8;
  private static final Set<String> LIBRARY = Set.of("java.lang.Object.<init>", "java.lang.Math.max", "java.lang.Math.min",
      "java.lang.Integer.bitCount");
  private static final Pattern CLASS = Pattern.compile("^(?:[a-z]+ )*class (\\S+) \\{$");
  private static final Pattern METHOD = Pattern.compile("^  (?:[\\w$.\\[\\]]+ )*([\\w$]+)\\([^)]*\\);$");
  private static final Pattern CALL = Pattern.compile(": invoke\\w+ .*// (?:Interface)?Method ([^:]+):");
  private static final Pattern OTHER = Pattern.compile("^ +\\d+: (new|newarray|anewarray|multianewarray|athrow|checkcast)\\b");

  private final Map<String, Set<String>> calls = new TreeMap<>();
  private final Map<String, Set<String>> others = new TreeMap<>();
  private String owner = "";
  private String method = "";

  public static void main(String[] args) {
    CallsTest test = new CallsTest();
    test.read(CorkageOnRemarks.class);
    for (Class<?> inner : CorkageOnRemarks.class.getDeclaredClasses()) {
      test.read(inner);
    }
    test.check();
    CHECK.end("CallsTest");
  }

  private void read(Class<?> type) {
    StringWriter out = new StringWriter();
    PrintWriter to = new PrintWriter(out);
    String[] arguments = {"-c", "-p", "-classpath", System.getProperty("java.class.path"), type.getName()};
    int exit = ToolProvider.findFirst("javap").orElseThrow().run(to, to, arguments);
    CHECK.same("javap of " + type.getName(), exit, 0);
    out.toString().lines().forEach(this::line);
  }

  private void line(String line) {
    Matcher m = CLASS.matcher(line);
    if (m.find()) {
      owner = m.group(1);
      return;
    }
    m = METHOD.matcher(line);
    if (m.find()) {
      method = owner + "." + (m.group(1).equals(owner) ? "<init>" : m.group(1));
      // Two methods of one name would be taken for one here.
      CHECK.that(method + " stands once", calls.put(method, new TreeSet<>()) == null);
      others.put(method, new TreeSet<>());
      return;
    }
    CHECK.that(method + " catches nothing", !line.contains("Exception table:"));
    m = CALL.matcher(line);
    if (m.find()) {
      String called = m.group(1).replace("\"", "").replace('/', '.');
      calls.get(method).add(called.contains(".") ? called : owner + "." + called);
    }
    m = OTHER.matcher(line);
    if (m.find()) {
      others.get(method).add(m.group(1));
    }
  }

  private void check() {
    CHECK.that("methods were found", calls.size() > 50);
    for (String from : calls.keySet()) {
      for (String to : calls.get(from)) {
        CHECK.that(from + " calls " + to + ", its own or one of those that it uses of the library",
            calls.containsKey(to) || LIBRARY.contains(to));
      }
      CHECK.that(from + " neither throws nor casts",
          !others.get(from).contains("athrow") && !others.get(from).contains("checkcast"));
      CHECK.that(from + " makes nothing, or is a constructor", others.get(from).isEmpty() || from.endsWith(".<init>"));
      CHECK.that(from + " is at most " + DEEPEST + " deep", depth(from, 1) <= DEEPEST);
    }
  }

  // What is too deep, or calls itself, ends just beyond what is allowed.
  private int depth(String from, int at) {
    int deepest = at;
    for (String to : calls.getOrDefault(from, Set.of())) {
      deepest = Math.max(deepest, at > DEEPEST ? at : depth(to, at + 1));
    }
    return deepest;
  }
}
