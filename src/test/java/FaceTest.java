import java.lang.reflect.Constructor;
import java.lang.reflect.Field;
import java.lang.reflect.Method;
import java.lang.reflect.Modifier;
import java.util.Set;
import java.util.TreeSet;

// The public face: the document's members, and no other that is not private.
public final class FaceTest {
  private static final Due t = new Due("FaceTest");
  private static final Set<String> CALLS = Set.of("put(int)", "drop(int)", "mend(int,int)", "set(int,int)",
      "letter(int)", "candidate(int,int,int)", "found(int,int)", "isCopy(int,int,int)", "part(int,int,int)",
      "total(int,int)", "partAt(int,int)", "parting(int,int)", "repeat(int)", "count(int)", "keep()",
      "restore()", "undo()", "type(int)", "clearText()", "write(int)", "fault(int)", "read()");

  public static void main(String[] args) {
    constants();
    type();
    methods();
    fields();
    t.end();
  }

  private static void constants() {
    t.due("INVALID_ARGUMENT", WindowCopies.INVALID_ARGUMENT, -10001);
    t.due("NOT_POSSIBLE", WindowCopies.NOT_POSSIBLE, -10002);
    t.due("LIMIT_REACHED", WindowCopies.LIMIT_REACHED, -10003);
    t.due("NOT_FOUND", WindowCopies.NOT_FOUND, -10004);
  }

  private static void type() {
    t.due("public final", WindowCopies.class.getModifiers(), Modifier.PUBLIC | Modifier.FINAL);
    Constructor<?>[] constructors = WindowCopies.class.getDeclaredConstructors();
    t.due("constructors", constructors.length, 1);
    t.due("its parameters", constructors[0].getParameterCount(), 0);
    t.due("it is public", constructors[0].getModifiers(), Modifier.PUBLIC);
    for (Class<?> inside : WindowCopies.class.getDeclaredClasses()) {
      int modifiers = inside.getModifiers();
      boolean fits = Modifier.isStatic(modifiers) && !Modifier.isPublic(modifiers) && !Modifier.isProtected(modifiers);
      t.due("class " + inside.getName() + " fits", fits ? 1 : 0, 1);
    }
  }

  private static void methods() {
    Set<String> names = new TreeSet<>();
    for (String call : CALLS) {
      names.add(call.substring(0, call.indexOf('(')));
    }
    int found = 0;
    for (Method method : WindowCopies.class.getDeclaredMethods()) {
      String text = method.toString();
      if (Modifier.isPrivate(method.getModifiers())) {
        t.due(text + " bears a public name", names.contains(method.getName()) ? 1 : 0, 0);
        continue;
      }
      found++;
      String call = text.substring(text.indexOf("WindowCopies.") + "WindowCopies.".length());
      t.due(text + " is of the face", CALLS.contains(call) && text.startsWith("public int ") ? 1 : 0, 1);
    }
    t.due("methods", found, CALLS.size());
  }

  private static void fields() {
    Set<String> constants = Set.of("INVALID_ARGUMENT", "NOT_POSSIBLE", "LIMIT_REACHED", "NOT_FOUND");
    int found = 0;
    for (Field field : WindowCopies.class.getDeclaredFields()) {
      if (!Modifier.isPrivate(field.getModifiers())) {
        found++;
        boolean fits = constants.contains(field.getName()) && field.toString().startsWith("public static final int ");
        t.due(field + " is of the face", fits ? 1 : 0, 1);
      } else if (Modifier.isStatic(field.getModifiers())) {
        t.due(field + " is final", Modifier.isFinal(field.getModifiers()) ? 1 : 0, 1);
      }
    }
    t.due("constants", found, constants.size());
  }
}
