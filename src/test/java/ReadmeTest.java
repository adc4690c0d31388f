import java.io.IOException;
import java.nio.file.Files;
import java.nio.file.Path;
import java.util.regex.Matcher;
import java.util.regex.Pattern;

// What README.md shows is what the class answers: the calls with their answers, the settings, the errors.
public final class ReadmeTest {
  private static final Due t = new Due("ReadmeTest");

  public static void main(String[] args) throws IOException, ReflectiveOperationException {
    String readme = Files.readString(Path.of("README.md"));
    calls(readme);
    settings(readme);
    errors(readme);
    t.end();
  }

  private static void calls(String readme) throws ReflectiveOperationException {
    WindowCopies x = Due.row("abcabcd");
    Matcher call = Pattern.compile("(?m)^x\\.(\\w+)\\(([\\d, ]*)\\);\\s*// (-?\\d+)").matcher(readme);
    int calls = 0;
    while (call.find()) {
      calls++;
      String[] numbers = call.group(2).isEmpty() ? new String[0] : call.group(2).split(", ");
      Class<?>[] types = new Class<?>[numbers.length];
      Object[] arguments = new Object[numbers.length];
      for (int i = 0; i < numbers.length; i++) {
        types[i] = int.class;
        arguments[i] = Integer.valueOf(numbers[i]);
      }
      Object answer = WindowCopies.class.getMethod(call.group(1), types).invoke(x, arguments);
      t.due(call.group(), ((Integer) answer).intValue(), Integer.parseInt(call.group(3)));
    }
    t.due("calls that README.md shows", calls, 7);
  }

  private static void settings(String readme) {
    Matcher row = Pattern.compile("(?m)^\\| (\\d) \\|[^|]*\\| (\\d+) to (\\d+) \\| (\\d+) \\|$").matcher(readme);
    int settings = 0;
    while (row.find()) {
      int what = Integer.parseInt(row.group(1));
      int low = Integer.parseInt(row.group(2));
      int high = Integer.parseInt(row.group(3));
      WindowCopies x = new WindowCopies();
      t.due("setting " + what, what, settings);
      settings++;
      t.due("first value of " + what, x.count(10 + what), Integer.parseInt(row.group(4)));
      t.due("below " + low, x.set(what, low - 1), Due.INVALID);
      t.due("above " + high, x.set(what, high + 1), Due.INVALID);
      t.due("at " + low, x.set(what, low), Integer.parseInt(row.group(4)));
      t.due("at " + high, x.set(what, high), low);
    }
    t.due("settings that README.md shows", settings, 5);
  }

  private static void errors(String readme) throws ReflectiveOperationException {
    Matcher row = Pattern.compile("(?m)^\\| `([A-Z_]+)` \\| (-\\d+) \\|").matcher(readme);
    int errors = 0;
    while (row.find()) {
      errors++;
      t.due(row.group(1), WindowCopies.class.getField(row.group(1)).getInt(null), Integer.parseInt(row.group(2)));
    }
    t.due("errors that README.md shows", errors, 4);
  }
}
