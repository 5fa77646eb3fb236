import java.io.IOException;
import java.lang.reflect.Constructor;
import java.lang.reflect.Field;
import java.lang.reflect.Method;
import java.lang.reflect.Modifier;
import java.nio.file.Files;
import java.nio.file.Path;
import java.util.Arrays;
import java.util.Set;
import java.util.TreeSet;
import java.util.regex.Matcher;
import java.util.regex.Pattern;

/** The rules of ../shared/LANGUAGE.md that can be seen from outside or from the words of the source. */
public final class LanguageTest {
  private static final Check CHECK = new Check();
  private static final Path SOURCE = Path.of("src/main/java/CorkageOnRemarks.java");
  private static final Path DOCUMENT = Path.of("../shared/DOC.md");
  private static final String[] NOT_USED = {"throw", "throws", "try", "catch", "finally", "synchronized", "assert", "import",
      "package", "native", "volatile", "transient", "System", "Object", "Exception", "hashCode", "toString", "Thread",
      "protected", "yield", "var", "goto"};

  public static void main(String[] args) throws IOException {
    face();
    members();
    inside();
    words(Files.readString(SOURCE));
    lengths(Files.readString(SOURCE));
    CHECK.end("LanguageTest");
  }

  private static void face() throws IOException {
    Set<String> told = new TreeSet<>();
    Matcher m = Pattern.compile("public (int|long) (\\w+)\\(([^)]*)\\);").matcher(Files.readString(DOCUMENT));
    while (m.find()) {
      String parameters = m.group(3).replaceAll("int \\w+", "int").replace(" ", "");
      told.add(m.group(1) + " " + m.group(2) + "(" + parameters + ")");
    }
    Set<String> found = new TreeSet<>();
    for (Method method : CorkageOnRemarks.class.getDeclaredMethods()) {
      if (Modifier.isPublic(method.getModifiers())) {
        String parameters = String.join(",", Arrays.stream(method.getParameterTypes()).map(Class::getName).toList());
        found.add(method.getReturnType() + " " + method.getName() + "(" + parameters + ")");
      }
    }
    CHECK.same("the face", found.toString(), told.toString());
    CHECK.same("the face's methods", found.size(), 34);
    promised(told);
  }

  // The signatures that stand with the promises are those of the face.
  private static void promised(Set<String> face) throws IOException {
    Set<String> told = new TreeSet<>();
    Matcher m = Pattern.compile("(?m)^`(int|long) (\\w+)\\(([^)]*)\\)`:").matcher(Files.readString(DOCUMENT));
    while (m.find()) {
      told.add(m.group(1) + " " + m.group(2) + "(" + m.group(3).replaceAll("int \\w+", "int").replace(" ", "") + ")");
    }
    CHECK.same("the promises' methods", told.toString(), face.toString());
  }

  private static void members() {
    Class<?> face = CorkageOnRemarks.class;
    CHECK.that("it is of no other type", face.getSuperclass() == Object.class && face.getInterfaces().length == 0);
    CHECK.that("final", Modifier.isFinal(face.getModifiers()) && Modifier.isPublic(face.getModifiers()));
    for (Method method : face.getDeclaredMethods()) {
      CHECK.that(method + " public or private", (method.getModifiers() & (Modifier.PUBLIC | Modifier.PRIVATE)) != 0);
    }
    for (Field field : face.getDeclaredFields()) {
      CHECK.that(field + " private", Modifier.isPrivate(field.getModifiers()));
    }
    Constructor<?>[] constructors = face.getDeclaredConstructors();
    CHECK.that("one public constructor", constructors.length == 1 && Modifier.isPublic(constructors[0].getModifiers())
        && constructors[0].getParameterCount() == 0);
  }

  private static void inside() {
    Set<String> names = new TreeSet<>();
    for (Method method : CorkageOnRemarks.class.getDeclaredMethods()) {
      if (Modifier.isPublic(method.getModifiers())) {
        names.add(method.getName());
      }
    }
    Class<?>[] classes = CorkageOnRemarks.class.getDeclaredClasses();
    CHECK.that("at most twelve classes", classes.length + 1 <= 12);
    for (Class<?> inner : classes) {
      CHECK.that(inner + " is static", Modifier.isStatic(inner.getModifiers()));
      CHECK.that(inner + " is not seen", (inner.getModifiers() & (Modifier.PUBLIC | Modifier.PROTECTED)) == 0);
      for (Method method : inner.getDeclaredMethods()) {
        CHECK.that(method + " has a name of its own", !names.contains(method.getName()));
      }
      fields(inner);
    }
    fields(CorkageOnRemarks.class);
  }

  private static void fields(Class<?> owner) {
    int own = 0;
    for (Field field : owner.getDeclaredFields()) {
      boolean isStatic = Modifier.isStatic(field.getModifiers());
      CHECK.that(field + " is final, being static", !isStatic || Modifier.isFinal(field.getModifiers()));
      CHECK.that(field + " is a number, being static", !isStatic || field.getType() == int.class);
      own += isStatic ? 0 : 1;
    }
    CHECK.that(owner + " has at most twenty fields", own <= 20);
    for (Method method : owner.getDeclaredMethods()) {
      CHECK.that(method + " has at most seven parameters", method.getParameterCount() <= 7);
    }
  }

  private static void words(String source) {
    for (String word : NOT_USED) {
      CHECK.that("no " + word, !Pattern.compile("\\b" + word + "\\b").matcher(code(source)).find());
    }
    for (String sign : new String[] {"->", "::", "Exact(", "@", "\""}) {
      CHECK.that("no " + sign, !code(source).contains(sign));
    }
    CHECK.that("signs 10 and 32 to 126 alone", source.chars().allMatch(c -> c == 10 || (c >= 32 && c < 127)));
  }

  private static void lengths(String source) {
    Matcher m = Pattern.compile("(?m)^( +)(?!for|if|while|switch|\\})\\S[^\\n]*\\) \\{$").matcher(source);
    int found = 0;
    while (m.find()) {
      String body = source.substring(m.start(), source.indexOf("\n" + m.group(1) + "}", m.end()));
      CHECK.that(m.group().trim() + " .. has at most sixty lines", body.lines().count() <= 60);
      found++;
    }
    CHECK.that("methods were found", found > 50);
  }

  private static String code(String source) {
    return source.replaceAll("(?m)//.*$", "").replaceAll("(?s)/\\*.*?\\*/", "");
  }
}
