import java.util.function.Consumer;
import java.util.function.ToIntFunction;

// "A call that returns an error changes nothing." Each call of promises 2 to 23 is refused for each error
// it knows, and what the object tells then is what one tells that was not asked. So it is with questions.
public final class RefusedTest {
  private static final Due t = new Due("RefusedTest");
  private static final int[] ODD = {Due.LEAST, Due.LEAST + 1, -10001, -1, 61, 10001, Due.MOST - 1, Due.MOST};
  private static final String LONG = "cheebbchagagchdhdfbcbbgachgcdfdhhdchhehaacaggccdcbaahghdbgdc";

  public static void main(String[] args) {
    changesOutOfRange();
    textsOutOfRange();
    questionsOutOfRange();
    notPossible();
    limitReached();
    notFound();
    questions();
    severalErrors();
    t.end();
  }

  private static void empty(WindowCopies x) {
    // A new object is one.
  }

  // Four states, settings that are not the first ones, a snapshot and a text without a fault.
  private static void rich(WindowCopies x) {
    for (int letter : new int[] {0, 1, 2, 0, 1, 2, 3}) {
      x.put(letter);
    }
    x.set(4, 12);
    x.keep();
    x.set(0, 10);
    x.mend(6, 7);
    x.put(0);
    Due.type(x, "ab(2,4)c");
  }

  // No call can make the row or the text longer; the snapshot is of a shorter row.
  private static void full(WindowCopies x) {
    for (int place = 0; place < 60; place++) {
      if (place == 30) {
        x.keep();
      }
      x.put(place % 7);
    }
    Due.type(x, "abcdefgh".repeat(7) + "abc" + " ".repeat(61));
  }

  // The parts of way 0 take more than 120 characters.
  private static void wide(WindowCopies x) {
    for (char letter : LONG.toCharArray()) {
      x.put(letter - 'a');
    }
    x.set(0, 60);
    x.set(1, 2);
    x.set(2, 60);
    Due.type(x, "abc");
  }

  private static void refused(String call, Consumer<WindowCopies> setup, ToIntFunction<WindowCopies> asked,
      int error) {
    WindowCopies x = new WindowCopies();
    setup.accept(x);
    t.due(call, asked.applyAsInt(x), error);
    dueUnchanged(call, setup, x);
  }

  private static void dueUnchanged(String call, Consumer<WindowCopies> setup, WindowCopies x) {
    WindowCopies other = new WindowCopies();
    setup.accept(other);
    String got = Seen.all(x);
    String want = Seen.all(other);
    t.due("what is seen after " + call + ":" + got + "\ninstead of:" + want + "\n", got.equals(want) ? 1 : 0, 1);
  }

  private static void refusedAlways(String call, ToIntFunction<WindowCopies> asked) {
    refused(call + ", new", RefusedTest::empty, asked, Due.INVALID);
    refused(call + ", rich", RefusedTest::rich, asked, Due.INVALID);
    refused(call + ", full", RefusedTest::full, asked, Due.INVALID);
  }

  private static void changesOutOfRange() {
    for (int odd : ODD) {
      refusedAlways("put " + odd, x -> x.put(odd));
      refusedAlways("drop " + odd, x -> x.drop(odd));
      refusedAlways("mend at " + odd, x -> x.mend(odd, 1));
      refusedAlways("mend with " + odd, x -> x.mend(0, odd));
      refusedAlways("mend both " + odd, x -> x.mend(odd, odd));
      refusedAlways("set of " + odd, x -> x.set(odd, 5));
      refusedAlways("set of and to " + odd, x -> x.set(odd, odd));
      for (int what = 0; what <= 4; what++) {
        int setting = what;
        refusedAlways("set " + what + " to " + odd, x -> x.set(setting, odd));
      }
    }
    refusedAlways("put 8", x -> x.put(8));
    refusedAlways("drop 0", x -> x.drop(0));
    refusedAlways("mend with 8", x -> x.mend(0, 8));
    refusedAlways("mend at 60", x -> x.mend(60, 0));
    refusedAlways("mend behind the row", x -> x.mend(x.count(0), 0));
    refusedAlways("set of 5", x -> x.set(5, 5));
    int[] lowest = {1, 2, 1, 1, 1};
    int[] highest = {60, 6, 60, 20, 60};
    for (int what = 0; what <= 4; what++) {
      int setting = what;
      refusedAlways("set " + what + " below", x -> x.set(setting, lowest[setting] - 1));
      refusedAlways("set " + what + " above", x -> x.set(setting, highest[setting] + 1));
    }
  }

  private static void textsOutOfRange() {
    for (int odd : ODD) {
      if (odd != 61) {
        refusedAlways("type " + odd, x -> x.type(odd));
      }
      refusedAlways("write " + odd, x -> x.write(odd));
      refusedAlways("fault " + odd, x -> x.fault(odd));
    }
    refusedAlways("type 31", x -> x.type(31));
    refusedAlways("type 127", x -> x.type(127));
    refusedAlways("write 3", x -> x.write(3));
    refusedAlways("fault 2", x -> x.fault(2));
  }

  private static void questionsOutOfRange() {
    for (int odd : ODD) {
      refusedAlways("letter " + odd, x -> x.letter(odd));
      refusedAlways("candidate at " + odd, x -> x.candidate(odd, 0, 0));
      refusedAlways("candidate's " + odd, x -> x.candidate(1, 0, odd));
      refusedAlways("found at " + odd, x -> x.found(odd, 0));
      refusedAlways("found's " + odd, x -> x.found(1, odd));
      refusedAlways("isCopy at " + odd, x -> x.isCopy(odd, odd, odd));
      refusedAlways("part of way " + odd, x -> x.part(odd, 0, 0));
      refusedAlways("part's " + odd, x -> x.part(0, 0, odd));
      refusedAlways("total of way " + odd, x -> x.total(odd, 0));
      refusedAlways("total's " + odd, x -> x.total(0, odd));
      refusedAlways("partAt of way " + odd, x -> x.partAt(odd, 0));
      refusedAlways("partAt " + odd, x -> x.partAt(0, odd));
      refusedAlways("parting of " + odd, x -> x.parting(odd, 0));
      refusedAlways("parting and " + odd, x -> x.parting(0, odd));
      refusedAlways("repeat " + odd, x -> x.repeat(odd));
      refusedAlways("count " + odd, x -> x.count(odd));
    }
    refusedAlways("candidate's index -1", x -> x.candidate(0, -1, 0));
    refusedAlways("part's index -1", x -> x.part(0, -1, 0));
  }

  private static void notPossible() {
    refused("drop of an empty row", RefusedTest::empty, x -> x.drop(1), Due.IMPOSSIBLE);
    refused("restore of none", RefusedTest::empty, x -> x.restore(), Due.IMPOSSIBLE);
    refused("undo of nothing", RefusedTest::empty, x -> x.undo(), Due.IMPOSSIBLE);
    refused("drop of 9", RefusedTest::rich, x -> x.drop(9), Due.IMPOSSIBLE);
    refused("drop of 60", RefusedTest::rich, x -> x.drop(60), Due.IMPOSSIBLE);
    refused("read of blanks", RefusedTest::full, x -> x.read(), Due.IMPOSSIBLE);
    for (String text : new String[] {"z", "ab(", "ab(3,3)", "ab(11,3)", "ab(2,2)", "ab(2,21)", "a".repeat(61)}) {
      Consumer<WindowCopies> setup = x -> {
        rich(x);
        x.clearText();
        Due.type(x, text);
      };
      refused("read of " + text, setup, x -> x.read(), Due.IMPOSSIBLE);
    }
    Consumer<WindowCopies> nothingToUndo = x -> {
      rich(x);
      while (x.count(3) > 0) {
        x.undo();
      }
    };
    refused("undo of no more", nothingToUndo, x -> x.undo(), Due.IMPOSSIBLE);
  }

  private static void limitReached() {
    refused("put into a full row", RefusedTest::full, x -> x.put(7), Due.LIMIT);
    refused("type into a full text", RefusedTest::full, x -> x.type('a'), Due.LIMIT);
    refused("write of a wide row", RefusedTest::wide, x -> x.write(0), Due.LIMIT);
  }

  private static void notFound() {
    refused("candidate", RefusedTest::rich, x -> x.candidate(3, 1, 0), Due.NONE);
    refused("candidate at most", RefusedTest::full, x -> x.candidate(59, Due.MOST, 1), Due.NONE);
    for (int what = 0; what <= 2; what++) {
      int of = what;
      refused("found " + what, RefusedTest::rich, x -> x.found(0, of), Due.NONE);
      refused("found " + what, RefusedTest::full, x -> x.found(59, of), Due.NONE);
      refused("repeat " + what, RefusedTest::empty, x -> x.repeat(of), Due.NONE);
      refused("part " + what, RefusedTest::empty, x -> x.part(of, 0, of), Due.NONE);
      refused("part " + what, RefusedTest::rich, x -> x.part(of, 8, of), Due.NONE);
      refused("part at most", RefusedTest::full, x -> x.part(of, Due.MOST, of), Due.NONE);
      refused("parting", RefusedTest::rich, x -> x.parting(of, of), Due.NONE);
    }
    for (int what = 0; what <= 1; what++) {
      int of = what;
      refused("fault " + what, RefusedTest::empty, x -> x.fault(of), Due.NONE);
      refused("fault " + what, RefusedTest::rich, x -> x.fault(of), Due.NONE);
    }
  }

  // Questions that are answered change nothing, too.
  private static void questions() {
    asked("letter", x -> x.letter(2));
    asked("isCopy", x -> x.isCopy(4, 3, 3));
    asked("candidate", x -> x.candidate(3, 0, 1));
    for (int what = 0; what <= 3; what++) {
      int of = what;
      asked("found " + what, x -> x.found(3, of));
      asked("found " + what + " far behind", x -> x.found(50, of));
    }
    for (int way = 0; way <= 2; way++) {
      int of = way;
      asked("part", x -> x.part(of, 3, 2));
      asked("total", x -> x.total(of, 4));
      asked("partAt", x -> x.partAt(of, 4));
      asked("parting", x -> x.parting(of, 0));
      asked("repeat", x -> x.repeat(of));
    }
    asked("count", x -> x.count(1));
    asked("the cheapest way", x -> x.count(2));
    asked("fault", x -> x.fault(0));
  }

  private static void asked(String call, ToIntFunction<WindowCopies> asked) {
    dueTheSameTwice(call + ", new", RefusedTest::empty, asked);
    dueTheSameTwice(call + ", rich", RefusedTest::rich, asked);
    dueTheSameTwice(call + ", full", RefusedTest::full, asked);
  }

  private static void dueTheSameTwice(String call, Consumer<WindowCopies> setup, ToIntFunction<WindowCopies> asked) {
    WindowCopies x = new WindowCopies();
    setup.accept(x);
    int first = asked.applyAsInt(x);
    t.due(call + " again", asked.applyAsInt(x), first);
    dueUnchanged(call, setup, x);
  }

  // "If several errors apply to a call, INVALID_ARGUMENT is returned rather than NOT_POSSIBLE, ..."
  private static void severalErrors() {
    refused("put: range and limit", RefusedTest::full, x -> x.put(8), Due.INVALID);
    refused("type: range and limit", RefusedTest::full, x -> x.type(127), Due.INVALID);
    refused("drop: range and too few", RefusedTest::rich, x -> x.drop(61), Due.INVALID);
    refused("candidate: what and index", RefusedTest::rich, x -> x.candidate(3, 60, 2), Due.INVALID);
    refused("candidate: place and index", RefusedTest::rich, x -> x.candidate(8, 60, 0), Due.INVALID);
    refused("found: what and none", RefusedTest::rich, x -> x.found(0, 4), Due.INVALID);
    refused("part: way and index", RefusedTest::rich, x -> x.part(3, 60, 0), Due.INVALID);
    refused("part: what and index", RefusedTest::rich, x -> x.part(0, 60, 4), Due.INVALID);
    refused("parting: way and none", RefusedTest::rich, x -> x.parting(3, 3), Due.INVALID);
    refused("repeat: what and none", RefusedTest::empty, x -> x.repeat(3), Due.INVALID);
    refused("fault: what and none", RefusedTest::empty, x -> x.fault(2), Due.INVALID);
    refused("write: way and limit", RefusedTest::wide, x -> x.write(3), Due.INVALID);
  }
}
