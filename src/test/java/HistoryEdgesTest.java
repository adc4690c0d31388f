import java.util.function.ToIntFunction;

// Boundary cases of promises 16 to 18 and of what a change records, a test for each sentence that names
// one: keep, restore, undo.
public final class HistoryEdgesTest {
  private static final Due t = new Due("HistoryEdgesTest");

  public static void main(String[] args) {
    historyFrom0To4();
    fifthStateDropsTheOldest();
    historyRoundAndRound();
    eachChangeRecords();
    changesThatChangeNothing();
    refusedCallsRecordNothing();
    questionsRecordNothing();
    recordsRowAndSettings();
    recordsNoText();
    recordsNoSnapshot();
    undoOfAnEmptyHistory();
    undoDownToTheEmptyRow();
    undoOfAFullRow();
    keepInPlaceOfTheOneThatWas();
    keepOfAnEmptyRow();
    keepOfAFullRow();
    keepIsNoChange();
    restoreWithoutASnapshot();
    restoreBringsRowAndSettings();
    restoreLeavesTheSnapshot();
    restoreLeavesTheText();
    restoreOfTheSameStateIsAChange();
    t.end();
  }

  // "A history of at most 4 states is kept"
  private static void historyFrom0To4() {
    WindowCopies x = new WindowCopies();
    t.due("at first", x.count(3), 0);
    for (int change = 1; change <= 7; change++) {
      x.put(change);
      t.due("after change " + change, x.count(3), Math.min(change, 4));
    }
    for (int left = 3; left >= 0; left--) {
      t.due("undo", x.undo(), left);
      t.due("states left", x.count(3), left);
    }
    t.due("nothing left", x.undo(), Due.IMPOSSIBLE);
    t.due("states", x.count(3), 0);
  }

  // "if there are 5 states then, the oldest one is dropped"
  private static void fifthStateDropsTheOldest() {
    WindowCopies four = Due.row("abcd");
    WindowCopies five = Due.row("abcde");
    for (int left = 3; left >= 0; left--) {
      t.due("undo of four", four.undo(), left);
      t.due("undo of five", five.undo(), left);
      t.dueRow(four, "abcd".substring(0, left));
      t.dueRow(five, "abcde".substring(0, left + 1));
    }
    t.due("the row before the first", four.count(0), 0);
    t.due("the oldest is gone", five.undo(), Due.IMPOSSIBLE);
    t.dueRow(five, "a");
  }

  // Changes and undos by turns, so that states are dropped, taken back and recorded anew many times.
  private static void historyRoundAndRound() {
    for (int changes = 1; changes <= 6; changes++) {
      for (int undos = 1; undos <= 4; undos++) {
        roundAndRound(changes, undos);
      }
    }
  }

  private static void roundAndRound(int changes, int undos) {
    WindowCopies x = new WindowCopies();
    String row = "";
    int states = 0;
    for (int round = 0; round < 5; round++) {
      for (int change = 0; change < changes; change++) {
        x.put((round + change) % 8);
        row += (char) ('a' + (round + change) % 8);
        states = Math.min(states + 1, 4);
      }
      for (int undo = 0; undo < undos; undo++) {
        t.due("undo", x.undo(), states == 0 ? Due.IMPOSSIBLE : states - 1);
        if (states > 0) {
          states--;
          row = row.substring(0, row.length() - 1);
        }
      }
      t.dueRow(x, row);
      t.due("states", x.count(3), states);
    }
  }

  // "The changes are the calls of put, drop, mend, set, restore and read that return no error."
  private static void eachChangeRecords() {
    dueStates("put", x -> x.put(0), 1);
    dueStates("drop", x -> x.drop(1), 1);
    dueStates("mend", x -> x.mend(0, 7), 1);
    dueStates("set", x -> x.set(0, 7), 1);
    dueStates("drop and restore", x -> x.drop(1) + x.restore(), 2);
    dueStates("read", x -> x.read(), 1);
  }

  private static void changesThatChangeNothing() {
    dueStates("mend with the same letter", x -> x.mend(0, 0), 1);
    dueStates("set to the same value", x -> x.set(0, 20), 1);
    dueStates("restore of the same state", x -> x.restore(), 1);
    dueStates("read of the same row", x -> x.write(0) + x.read(), 1);
  }

  private static void refusedCallsRecordNothing() {
    dueStates("put", x -> x.put(8), 0);
    dueStates("drop", x -> x.drop(0), 0);
    dueStates("drop of more", x -> x.drop(4), 0);
    dueStates("mend", x -> x.mend(3, 0), 0);
    dueStates("mend with no letter", x -> x.mend(0, 8), 0);
    dueStates("set", x -> x.set(5, 1), 0);
    dueStates("set above", x -> x.set(0, 61), 0);
    dueStates("read", x -> x.type('z') + x.read(), 0);
    WindowCopies full = Due.row("a".repeat(60));
    while (full.count(3) > 1) {
      full.undo();
    }
    while (full.count(0) < 60) {
      full.put(0);
    }
    t.due("states of a full row", full.count(3), 4);
    full.put(0);
    t.due("put into a full row", full.undo(), 3);
    t.due("letters", full.count(0), 59);
    WindowCopies none = new WindowCopies();
    none.restore();
    none.undo();
    t.due("restore of none", none.count(3), 0);
  }

  private static void questionsRecordNothing() {
    dueStates("letter", x -> x.letter(0), 0);
    dueStates("candidate", x -> x.candidate(1, 0, 0), 0);
    dueStates("found", x -> x.found(1, 0), 0);
    dueStates("isCopy", x -> x.isCopy(1, 1, 3), 0);
    dueStates("part", x -> x.part(0, 0, 0), 0);
    dueStates("total", x -> x.total(2, 2), 0);
    dueStates("partAt", x -> x.partAt(1, 1), 0);
    dueStates("parting", x -> x.parting(0, 1), 0);
    dueStates("repeat", x -> x.repeat(0), 0);
    dueStates("count", x -> x.count(3), 0);
    dueStates("keep", x -> x.keep(), 0);
    dueStates("type", x -> x.type('a'), 0);
    dueStates("clearText", x -> x.clearText(), 0);
    dueStates("write", x -> x.write(0), 0);
    dueStates("fault", x -> x.fault(0), 0);
  }

  // A row abc, read from a text that stays, with a snapshot of it and one state in the history.
  private static void dueStates(String call, ToIntFunction<WindowCopies> made, int states) {
    WindowCopies x = new WindowCopies();
    Due.type(x, "abc");
    x.read();
    x.keep();
    made.applyAsInt(x);
    t.due("states by " + call, x.count(3), 1 + states);
    x.undo();
    t.due("states after undo of " + call, x.count(3), states);
  }

  // "each change records everything before it"
  private static void recordsRowAndSettings() {
    WindowCopies x = Due.row("abcabc");
    int[] other = {7, 5, 3, 2, 1};
    int[] first = {20, 3, 8, 8, 18};
    for (int what = 0; what < 5; what++) {
      x.set(what, other[what]);
      x.put(what);
      t.due("undo of put", x.undo(), 3);
      t.due("setting " + what + " is new", x.count(10 + what), other[what]);
      x.undo();
      t.due("setting " + what + " is back", x.count(10 + what), first[what]);
      t.dueRow(x, "abcabc");
      x.put(0);
      x.put(1);
      x.drop(2);
    }
  }

  // "but the text"
  private static void recordsNoText() {
    WindowCopies x = Due.row("ab");
    x.put(2);
    Due.type(x, "hhh");
    t.due("undo", x.undo(), 2);
    t.due("text stays", x.count(4), 3);
    t.due("it reads the same", x.read(), 3);
    t.dueRow(x, "hhh");
    x.clearText();
    x.undo();
    t.due("the empty text stays", x.count(4), 0);
    x.write(0);
    x.undo();
    t.due("the written text stays", x.count(4), 2);
  }

  // "and the snapshot"
  private static void recordsNoSnapshot() {
    WindowCopies x = Due.row("ab");
    x.put(2);
    x.keep();
    t.due("undo of what was before keep", x.undo(), 2);
    t.due("the snapshot stays", x.count(5), 1);
    x.undo();
    x.undo();
    t.due("and stays", x.count(5), 1);
    t.due("restore", x.restore(), 3);
    t.dueRow(x, "abc");
    x.put(3);
    x.keep();
    x.undo();
    t.due("the latter snapshot stays", x.restore(), 4);
  }

  // undo: "NOT_POSSIBLE if it is empty"
  private static void undoOfAnEmptyHistory() {
    WindowCopies x = new WindowCopies();
    for (int call = 0; call < 3; call++) {
      t.due("nothing to undo", x.undo(), Due.IMPOSSIBLE);
    }
    x.put(0);
    t.due("one", x.undo(), 0);
    t.due("no more", x.undo(), Due.IMPOSSIBLE);
    t.due("an undo can't be undone", x.count(0), 0);
    x.put(1);
    t.due("states", x.count(3), 1);
    t.dueRow(x, "b");
  }

  private static void undoDownToTheEmptyRow() {
    WindowCopies x = new WindowCopies();
    x.put(5);
    x.drop(1);
    t.due("undo the drop", x.undo(), 1);
    t.dueRow(x, "f");
    t.due("undo the put", x.undo(), 0);
    t.dueRow(x, "");
    t.due("no place", x.letter(0), Due.INVALID);
  }

  private static void undoOfAFullRow() {
    String letters = "abcdefgh".repeat(7) + "hgfe";
    WindowCopies x = Due.row(letters);
    x.drop(60);
    x.put(0);
    t.due("undo the put", x.undo(), 3);
    t.dueRow(x, "");
    t.due("undo the drop", x.undo(), 2);
    t.dueRow(x, letters);
    t.due("full again", x.put(0), Due.LIMIT);
  }

  // keep: "in place of the one that was"
  private static void keepInPlaceOfTheOneThatWas() {
    WindowCopies x = Due.row("abc");
    t.due("keep", x.keep(), 3);
    x.drop(2);
    x.set(2, 1);
    t.due("keep a shorter one", x.keep(), 1);
    x.put(7);
    x.set(2, 2);
    t.due("restore", x.restore(), 1);
    t.dueRow(x, "a");
    t.due("its setting", x.count(12), 1);
  }

  // keep: "Returns how many letters there are."
  private static void keepOfAnEmptyRow() {
    WindowCopies x = new WindowCopies();
    t.due("keep", x.keep(), 0);
    t.due("a snapshot of nothing is one", x.count(5), 1);
    x.put(0);
    t.due("restore", x.restore(), 0);
    t.due("the row is empty", x.count(0), 0);
    t.due("a change", x.undo(), 1);
    t.dueRow(x, "a");
  }

  private static void keepOfAFullRow() {
    String letters = "abcdefgh".repeat(7) + "hgfe";
    WindowCopies x = Due.row(letters);
    t.due("keep", x.keep(), 60);
    x.drop(60);
    t.due("restore", x.restore(), 60);
    t.dueRow(x, letters);
    t.due("full again", x.put(0), Due.LIMIT);
  }

  private static void keepIsNoChange() {
    WindowCopies x = Due.row("abcde");
    for (int call = 0; call < 6; call++) {
      x.keep();
    }
    for (int left = 3; left >= 0; left--) {
      t.due("undo", x.undo(), left);
    }
    t.dueRow(x, "a");
  }

  // restore: "NOT_POSSIBLE if there is none"
  private static void restoreWithoutASnapshot() {
    WindowCopies x = Due.row("abc");
    t.due("none", x.restore(), Due.IMPOSSIBLE);
    t.dueRow(x, "abc");
    t.due("no change", x.count(3), 3);
    t.due("still none", x.count(5), 0);
    x.keep();
    x.undo();
    t.due("one", x.restore(), 3);
  }

  // "Restores the state of the snapshot"
  private static void restoreBringsRowAndSettings() {
    WindowCopies x = Due.row("abcabc");
    int[] kept = {60, 2, 60, 20, 60};
    for (int what = 0; what < 5; what++) {
      x.set(what, kept[what]);
    }
    x.keep();
    int[] lowest = {1, 3, 1, 1, 1};
    for (int what = 0; what < 5; what++) {
      x.set(what, lowest[what]);
    }
    x.mend(0, 7);
    x.put(7);
    t.due("restore", x.restore(), 6);
    t.dueRow(x, "abcabc");
    for (int what = 0; what < 5; what++) {
      t.due("setting " + what, x.count(10 + what), kept[what]);
    }
    t.due("undo", x.undo(), 3);
    t.dueRow(x, "hbcabch");
    for (int what = 0; what < 5; what++) {
      t.due("setting " + what + " before", x.count(10 + what), lowest[what]);
    }
  }

  // "which stays"
  private static void restoreLeavesTheSnapshot() {
    WindowCopies x = Due.row("abc");
    x.keep();
    for (int round = 0; round < 6; round++) {
      x.mend(0, 7);
      x.set(0, 1);
      x.drop(2);
      t.due("restore", x.restore(), 3);
      t.dueRow(x, "abc");
      t.due("setting", x.count(10), 20);
      t.due("it stays", x.count(5), 1);
    }
  }

  // The text is no part of what the history's states and the snapshot hold.
  private static void restoreLeavesTheText() {
    WindowCopies x = Due.row("abc");
    Due.type(x, "hh");
    x.keep();
    x.type('g');
    t.due("restore", x.restore(), 3);
    t.due("text", x.count(4), 3);
    t.due("read", x.read(), 3);
    t.dueRow(x, "hhg");
  }

  private static void restoreOfTheSameStateIsAChange() {
    WindowCopies x = Due.row("abc");
    x.keep();
    t.due("restore at once", x.restore(), 3);
    t.due("a change", x.count(3), 4);
    t.due("restore with a full history", x.restore(), 3);
    t.due("states", x.count(3), 4);
    for (int left = 3; left >= 2; left--) {
      t.due("undo", x.undo(), left);
      t.dueRow(x, "abc");
    }
    t.due("undo of the last put", x.undo(), 1);
    t.dueRow(x, "ab");
  }
}
