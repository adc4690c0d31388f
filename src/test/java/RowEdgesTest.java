// Boundary cases of promises 1 to 6, a test for each sentence that names one: a new object, put, drop,
// mend, set, letter. What a refused call leaves as it was is RefusedTest's.
public final class RowEdgesTest {
  private static final Due t = new Due("RowEdgesTest");
  private static final int[] LOWEST = {1, 2, 1, 1, 1};
  private static final int[] HIGHEST = {60, 6, 60, 20, 60};
  private static final int[] FIRST = {20, 3, 8, 8, 18};

  public static void main(String[] args) {
    useOf512Calls();
    atMost60Letters();
    roomAgainBelow60();
    lettersFrom0To7();
    emptyAtFirst();
    placesFrom0();
    putTooSmallOrTooLarge();
    putWithAFullRow();
    dropFrom1To60();
    dropMoreThanThereAre();
    mendAtNoPlace();
    mendWithNoLetter();
    mendFirstAndLast();
    settingsFirstValues();
    settingsLowestAndHighest();
    settingsTooSmallOrTooLarge();
    settingsThatAreNone();
    settingsRangesAreTheirOwn();
    letterAtNoPlace();
    t.end();
  }

  // "An object is used for at most 512 calls after it has been made"
  private static void useOf512Calls() {
    WindowCopies x = new WindowCopies();
    for (int call = 1; call <= 256; call++) {
      t.due("put, round " + call, x.put(call % 8), call == 1 ? 1 : 2);
      t.due("drop or mend, round " + call, call == 1 ? x.mend(0, 7) : x.drop(1), 1);
    }
    WindowCopies full = Due.row("ab".repeat(30));
    for (int call = 61; call <= 509; call++) {
      full.mend(call % 60, call % 8);
    }
    int letters = full.total(2, 0) - full.total(2, 1);
    t.due("the 512th call", full.total(2, 4), 60 - letters);
  }

  // "The row has at most 60 letters"
  private static void atMost60Letters() {
    WindowCopies x = new WindowCopies();
    for (int size = 1; size <= 60; size++) {
      t.due("put " + size, x.put(size % 2), size);
    }
    t.due("put 61", x.put(0), Due.LIMIT);
    t.due("letters", x.count(0), 60);
    t.due("the last letter", x.letter(59), 0);
  }

  private static void roomAgainBelow60() {
    WindowCopies x = Due.row("ab".repeat(30));
    t.due("full", x.put(7), Due.LIMIT);
    t.due("drop", x.drop(1), 59);
    t.due("room for one", x.put(7), 60);
    t.due("full again", x.put(6), Due.LIMIT);
    t.due("the one", x.letter(59), 7);
    t.due("undo", x.undo(), 3);
    t.due("room after undo", x.put(5), 60);
    t.due("full once more", x.put(5), Due.LIMIT);
  }

  // "0 to 7, told as a to h in texts"
  private static void lettersFrom0To7() {
    WindowCopies x = new WindowCopies();
    for (int letter = 0; letter <= 7; letter++) {
      t.due("put " + letter, x.put(letter), letter + 1);
      t.due("letter " + letter, x.letter(letter), letter);
    }
    for (int letter = 0; letter <= 7; letter++) {
      x.clearText();
      x.type('a' + letter);
      t.due("read of one letter", x.read(), 1);
      t.due("letter told as " + (char) ('a' + letter), x.letter(0), letter);
    }
    t.dueFault(x, "`", 0, 1);
    t.dueFault(x, "i", 0, 1);
  }

  // "it is empty at first"; promise 1: "Creates an empty row."
  private static void emptyAtFirst() {
    WindowCopies x = new WindowCopies();
    for (int what = 0; what <= 5; what++) {
      t.due("count " + what, x.count(what), 0);
    }
    t.due("letter 0", x.letter(0), Due.INVALID);
    t.due("drop 1", x.drop(1), Due.IMPOSSIBLE);
    t.due("undo", x.undo(), Due.IMPOSSIBLE);
    t.due("restore", x.restore(), Due.IMPOSSIBLE);
    t.due("put", x.put(0), 1);
  }

  // "Its places are numbered from 0."
  private static void placesFrom0() {
    WindowCopies x = Due.row("dh");
    t.due("place 0", x.letter(0), 3);
    t.due("place 1", x.letter(1), 7);
    t.due("place 2", x.letter(2), Due.INVALID);
    t.due("place -1", x.letter(-1), Due.INVALID);
  }

  // put: "INVALID_ARGUMENT if letter is out of range"
  private static void putTooSmallOrTooLarge() {
    WindowCopies x = new WindowCopies();
    for (int wrong : new int[] {-1, 8, Due.LEAST, Due.LEAST + 7, Due.MOST, 'a', 256}) {
      t.due("put " + wrong, x.put(wrong), Due.INVALID);
    }
    t.due("the row is empty still", x.count(0), 0);
    t.due("put 0", x.put(0), 1);
    t.due("put 7", x.put(7), 2);
  }

  // put: "LIMIT_REACHED if there are 60", and "INVALID_ARGUMENT is returned rather than ... LIMIT_REACHED"
  private static void putWithAFullRow() {
    WindowCopies x = Due.row("a".repeat(59));
    t.due("59 are none too many", x.put(7), 60);
    t.due("60 are", x.put(7), Due.LIMIT);
    t.due("and again", x.put(0), Due.LIMIT);
    t.due("a letter below", x.put(-1), Due.INVALID);
    t.due("a letter above", x.put(8), Due.INVALID);
    t.due("letters", x.count(0), 60);
  }

  // drop: "many: 1 to 60"
  private static void dropFrom1To60() {
    t.due("1 of 1", Due.row("a").drop(1), 0);
    t.due("60 of 60", Due.row("a".repeat(60)).drop(60), 0);
    t.due("59 of 60", Due.row("a".repeat(60)).drop(59), 1);
    for (String letters : new String[] {"", "a", "a".repeat(60)}) {
      WindowCopies x = Due.row(letters);
      for (int wrong : new int[] {0, -1, 61, Due.LEAST, Due.MOST}) {
        t.due("drop " + wrong + " of " + letters.length(), x.drop(wrong), Due.INVALID);
      }
      t.due("letters", x.count(0), letters.length());
    }
  }

  // drop: "NOT_POSSIBLE if there are not so many"
  private static void dropMoreThanThereAre() {
    for (int size = 0; size < 60; size++) {
      WindowCopies x = Due.row("a".repeat(size));
      t.due("one too many of " + size, x.drop(size + 1), Due.IMPOSSIBLE);
      t.due("60 of " + size, x.drop(60), Due.IMPOSSIBLE);
      t.due("letters", x.count(0), size);
      if (size > 0) {
        t.due("all of " + size, x.drop(size), 0);
      }
    }
  }

  // "If there is no place with a certain number, this is INVALID_ARGUMENT."
  private static void mendAtNoPlace() {
    t.due("of an empty row", new WindowCopies().mend(0, 0), Due.INVALID);
    WindowCopies x = Due.row("abcd");
    for (int wrong : new int[] {-1, 4, 59, 60, Due.LEAST, Due.MOST}) {
      t.due("mend at " + wrong, x.mend(wrong, 0), Due.INVALID);
    }
    x.drop(1);
    t.due("at a place that was", x.mend(3, 0), Due.INVALID);
    t.dueRow(x, "abc");
    WindowCopies full = Due.row("a".repeat(60));
    t.due("at 60 of 60", full.mend(60, 1), Due.INVALID);
    t.due("at 59 of 60", full.mend(59, 1), 0);
    t.due("the last letter", full.letter(59), 1);
  }

  // mend: "letter: 0 to 7"
  private static void mendWithNoLetter() {
    WindowCopies x = Due.row("abc");
    for (int wrong : new int[] {-1, 8, Due.LEAST, Due.MOST}) {
      t.due("mend with " + wrong, x.mend(1, wrong), Due.INVALID);
      t.due("mend at no place with " + wrong, x.mend(3, wrong), Due.INVALID);
    }
    t.dueRow(x, "abc");
    t.due("with 7", x.mend(1, 7), 1);
    t.due("with 0", x.mend(1, 0), 7);
    t.dueRow(x, "aac");
  }

  private static void mendFirstAndLast() {
    WindowCopies x = Due.row("abc");
    t.due("first", x.mend(0, 3), 0);
    t.due("last", x.mend(2, 4), 2);
    t.dueRow(x, "dbe");
    WindowCopies one = Due.row("h");
    t.due("the only one", one.mend(0, 0), 7);
    t.dueRow(one, "a");
  }

  // "The settings are (in parentheses: range; first value)"
  private static void settingsFirstValues() {
    for (int what = 0; what < 5; what++) {
      WindowCopies x = new WindowCopies();
      t.due("first value of " + what, x.count(10 + what), FIRST[what]);
      t.due("set returns it", x.set(what, LOWEST[what]), FIRST[what]);
    }
  }

  private static void settingsLowestAndHighest() {
    for (int what = 0; what < 5; what++) {
      WindowCopies x = new WindowCopies();
      for (int value = LOWEST[what]; value <= HIGHEST[what]; value++) {
        int before = value == LOWEST[what] ? FIRST[what] : value - 1;
        t.due("set " + what + " to " + value, x.set(what, value), before);
        t.due("it is", x.count(10 + what), value);
      }
      for (int other = 0; other < 5; other++) {
        t.due("setting " + other, x.count(10 + other), other == what ? HIGHEST[other] : FIRST[other]);
      }
    }
  }

  private static void settingsTooSmallOrTooLarge() {
    for (int what = 0; what < 5; what++) {
      WindowCopies x = new WindowCopies();
      int[] wrongs = {LOWEST[what] - 1, HIGHEST[what] + 1, -1, 0, 61, Due.LEAST, Due.MOST};
      for (int wrong : wrongs) {
        t.due("set " + what + " to " + wrong, x.set(what, wrong), Due.INVALID);
        t.due("it stays", x.count(10 + what), FIRST[what]);
      }
      t.due("no change", x.count(3), 0);
    }
  }

  private static void settingsThatAreNone() {
    WindowCopies x = new WindowCopies();
    for (int wrong : new int[] {-1, 5, 10, 14, Due.LEAST, Due.MOST}) {
      t.due("set of " + wrong, x.set(wrong, 3), Due.INVALID);
      for (int value : new int[] {-1, 0, 1, 20, 60, Due.LEAST, Due.MOST}) {
        t.due("set of " + wrong + " to " + value, x.set(wrong, value), Due.INVALID);
      }
    }
    t.due("no change", x.count(3), 0);
  }

  // A value that one setting may have and another may not.
  private static void settingsRangesAreTheirOwn() {
    WindowCopies x = new WindowCopies();
    t.due("window 1", x.set(0, 1), 20);
    t.due("least length 1", x.set(1, 1), Due.INVALID);
    t.due("looked at 1", x.set(2, 1), 8);
    t.due("a letter's cost 1", x.set(3, 1), 8);
    t.due("a copy's cost 1", x.set(4, 1), 18);
    t.due("window 7", x.set(0, 7), 1);
    t.due("least length 7", x.set(1, 7), Due.INVALID);
    t.due("a letter's cost 21", x.set(3, 21), Due.INVALID);
    t.due("a copy's cost 21", x.set(4, 21), 1);
    t.due("looked at 21", x.set(2, 21), 1);
  }

  private static void letterAtNoPlace() {
    t.due("of an empty row", new WindowCopies().letter(0), Due.INVALID);
    WindowCopies x = Due.row("abc");
    for (int wrong : new int[] {-1, 3, 59, 60, Due.LEAST, Due.MOST}) {
      t.due("letter " + wrong, x.letter(wrong), Due.INVALID);
    }
    x.drop(1);
    t.due("a place that was", x.letter(2), Due.INVALID);
    x.undo();
    t.due("and is again", x.letter(2), 2);
    WindowCopies full = Due.row("a".repeat(59) + "h");
    t.due("letter 59 of 60", full.letter(59), 7);
    t.due("letter 60 of 60", full.letter(60), Due.INVALID);
  }
}
