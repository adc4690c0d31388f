import java.io.IOException;
import java.lang.reflect.Constructor;
import java.lang.reflect.Field;
import java.lang.reflect.Method;
import java.lang.reflect.Modifier;
import java.nio.file.Files;
import java.nio.file.Path;
import java.util.List;
import java.util.Set;
import java.util.regex.Matcher;
import java.util.regex.Pattern;

// The rules of LANGUAGE.md that can be seen from the class's text, and that the machine never throws in
// it: each index and each divisor stands in a line that was looked at and is written out here.
public final class LanguageTest {
  private static final Due t = new Due("LanguageTest");
  private static final Path SOURCE = Path.of("src/main/java/WindowCopies.java");
  private static final Set<String> BANNED = Set.of("throw", "throws", "try", "catch", "finally",
      "synchronized", "assert", "import", "package", "volatile", "native", "var", "instanceof", "yield");
  private static final Set<String> NAMES = Set.of("WindowCopies", "State", "History", "Candidates", "Plan",
      "Stretch", "Text", "TextReader", "Math");
  private static final Set<String> LIBRARY = Set.of("Math.min", "Math.max");
  private static final Set<String> INDEX_LINES = Set.of(
      "return index >= 0 && index < numbers.length ? numbers[index] : NOTHING;",
      "numbers[index] = number;",
      "states[i] = new State();",
      "return age >= 0 && slot >= 0 && slot < states.length ? states[slot] : null;");
  private static final Set<String> DIVISORS = Set.of("10", "MOST_STATES");
  // Made for each object that is made, never by a call.
  private static final Set<String> NEW_LINES = Set.of("states[i] = new State();");
  private static final int LONGEST_METHOD = 60;
  private static final int MOST_PARAMETERS = 7;
  private static final int MOST_CLASSES = 12;
  private static final int MOST_FIELDS = 20;

  public static void main(String[] args) throws IOException {
    String source = Files.readString(SOURCE);
    t.due("signs are 1 to 127", source.chars().allMatch(sign -> sign >= 1 && sign <= 127) ? 1 : 0, 1);
    List<String> lines = source.lines().map(LanguageTest::withoutComment).map(String::strip).toList();
    for (String line : lines) {
      words(line);
      indices(line);
      divisors(line);
      made(line);
    }
    methodsAreShort(source);
    shapes();
    t.end();
  }

  private static void fits(String what, boolean fits) {
    t.due(what, fits ? 1 : 0, 1);
  }

  private static String withoutComment(String line) {
    int comment = line.indexOf("//");
    return comment < 0 ? line : line.substring(0, comment);
  }

  private static void words(String line) {
    Matcher word = Pattern.compile("[A-Za-z_][A-Za-z_0-9]*").matcher(line);
    while (word.find()) {
      fits(word.group() + " may stand in: " + line, !BANNED.contains(word.group()));
      if (word.group().matches("[A-Z].*[a-z].*")) {
        fits(word.group() + " is a class of its own in: " + line, NAMES.contains(word.group()));
      }
    }
    Matcher library = Pattern.compile("Math\\.\\w+").matcher(line);
    while (library.find()) {
      fits(library.group() + " is in the library", LIBRARY.contains(library.group()));
    }
    fits("no lambda, method reference, annotation or text in: " + line, !line.matches(".*(->|::|@|\").*"));
    fits("no cast in: " + line, !line.matches(".*\\((int|long|short|byte|char|[A-Z][a-z]+)\\).*"));
  }

  private static void indices(String line) {
    boolean hasIndex = Pattern.compile("[\\w)\\]]\\[[^\\]]").matcher(line.replaceAll("new \\w+\\[", "new (")).find();
    fits("the index was looked at in: " + line, !hasIndex || INDEX_LINES.contains(line));
  }

  private static void divisors(String line) {
    Matcher divisor = Pattern.compile("[/%]=?\\s*([\\w.(]+)").matcher(line);
    while (divisor.find()) {
      fits("the divisor is no 0 in: " + line, DIVISORS.contains(divisor.group(1)));
    }
  }

  private static void made(String line) {
    boolean isField = line.startsWith("private final ") && line.endsWith(";");
    fits("made once: " + line, !line.matches(".*\\bnew\\b.*") || isField || NEW_LINES.contains(line));
    fits("a number of its own as length: " + line, !line.contains("new int[")
        || line.matches(".*new int\\[(WAYS \\* )?[A-Z_]+( \\+ [12])?\\];"));
  }

  // A method begins with a line that ends with "{" two or four blanks deep, and ends with "}" as deep.
  private static void methodsAreShort(String source) {
    Matcher method = Pattern.compile("(?m)^( {2}| {4})(?! )([^\\n]*\\)) \\{\\n(.*?)^\\1\\}", Pattern.DOTALL).matcher(source);
    int found = 0;
    while (method.find()) {
      found++;
      fits(method.group(2) + " is short", method.group(3).lines().count() <= LONGEST_METHOD);
    }
    fits("methods were found", found > 22);
  }

  private static void shapes() {
    Class<?>[] inside = WindowCopies.class.getDeclaredClasses();
    fits("not too many classes", inside.length < MOST_CLASSES);
    shape(WindowCopies.class);
    for (Class<?> one : inside) {
      fits(one + " is final and made by no other", Modifier.isFinal(one.getModifiers()));
      shape(one);
    }
  }

  private static void shape(Class<?> one) {
    int fields = 0;
    for (Field field : one.getDeclaredFields()) {
      boolean isStatic = Modifier.isStatic(field.getModifiers());
      fields += isStatic ? 0 : 1;
      fits(field + " is final if it is static", !isStatic || Modifier.isFinal(field.getModifiers()));
    }
    fits(one + " has not too many fields", fields <= MOST_FIELDS);
    for (Method method : one.getDeclaredMethods()) {
      fits(method + " has not too many parameters", method.getParameterCount() <= MOST_PARAMETERS);
    }
    for (Constructor<?> constructor : one.getDeclaredConstructors()) {
      fits(constructor + " has not too many parameters", constructor.getParameterCount() <= MOST_PARAMETERS);
    }
  }
}
