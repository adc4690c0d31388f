// Promises 1 to 6: a new object, put, drop, mend, set, letter.
public final class RowTest {
  private static final Due t = new Due("RowTest");

  public static void main(String[] args) {
    newObject();
    objectsOfTheirOwn();
    put();
    drop();
    mend();
    set();
    letter();
    t.end();
  }

  private static void newObject() {
    WindowCopies x = new WindowCopies();
    for (int what = 0; what <= 5; what++) {
      t.due("new: count " + what, x.count(what), 0);
      for (int way = 0; way <= 2; way++) {
        t.due("new: total " + way + " " + what, x.total(way, what), 0);
      }
    }
    int[] first = {20, 3, 8, 8, 18};
    for (int what = 0; what < 5; what++) {
      t.due("new: setting " + what, x.count(10 + what), first[what]);
    }
    t.due("new: letter(0)", x.letter(0), Due.INVALID);
    t.due("new: candidate", x.candidate(0, 0, 0), Due.INVALID);
    t.due("new: found", x.found(0, 3), Due.INVALID);
    t.due("new: isCopy", x.isCopy(0, 1, 3), Due.INVALID);
    t.due("new: part", x.part(0, 0, 0), Due.NONE);
    t.due("new: partAt", x.partAt(0, 0), Due.INVALID);
    t.due("new: parting", x.parting(0, 2), Due.NONE);
    t.due("new: repeat", x.repeat(0), Due.NONE);
    t.due("new: restore", x.restore(), Due.IMPOSSIBLE);
    t.due("new: undo", x.undo(), Due.IMPOSSIBLE);
    t.due("new: clearText", x.clearText(), 0);
    t.due("new: write", x.write(2), 0);
    t.due("new: fault", x.fault(0), Due.NONE);
    t.due("new: read", x.read(), 0);
  }

  private static void objectsOfTheirOwn() {
    WindowCopies x = Due.row("abc");
    x.keep();
    x.type('a');
    x.set(0, 5);
    WindowCopies y = new WindowCopies();
    t.due("other row", y.count(0), 0);
    t.due("other history", y.count(3), 0);
    t.due("other text", y.count(4), 0);
    t.due("other snapshot", y.count(5), 0);
    t.due("other setting", y.count(10), 20);
  }

  private static void put() {
    WindowCopies x = new WindowCopies();
    for (int letter = 0; letter < 8; letter++) {
      t.due("put " + letter, x.put(letter), letter + 1);
    }
    t.dueRow(x, "abcdefgh");
    for (int wrong : new int[] {-1, 8, Due.LEAST, Due.MOST}) {
      t.due("put " + wrong, x.put(wrong), Due.INVALID);
    }
    t.due("letters after wrong puts", x.count(0), 8);
    for (int size = 9; size <= 60; size++) {
      t.due("put to " + size, x.put(size % 8), size);
    }
    t.due("put to 61", x.put(0), Due.LIMIT);
    t.due("wrong put to 61", x.put(8), Due.INVALID);
    t.due("letters", x.count(0), 60);
    t.due("letter 59", x.letter(59), 4);
    t.due("undo of the 60th", x.undo(), 3);
    t.due("letters after undo", x.count(0), 59);
  }

  private static void drop() {
    WindowCopies x = Due.row("abcdef");
    t.due("drop 2", x.drop(2), 4);
    t.dueRow(x, "abcd");
    for (int wrong : new int[] {0, -1, 61, Due.LEAST, Due.MOST}) {
      t.due("drop " + wrong, x.drop(wrong), Due.INVALID);
    }
    t.due("drop 5 of 4", x.drop(5), Due.IMPOSSIBLE);
    t.due("drop 60 of 4", x.drop(60), Due.IMPOSSIBLE);
    t.dueRow(x, "abcd");
    t.due("drop 4 of 4", x.drop(4), 0);
    t.due("drop 1 of 0", x.drop(1), Due.IMPOSSIBLE);
    t.due("letter that is gone", x.letter(0), Due.INVALID);
    x.put(7);
    t.dueRow(x, "h");
    WindowCopies full = Due.row("a".repeat(60));
    t.due("drop 60 of 60", full.drop(60), 0);
  }

  private static void mend() {
    WindowCopies x = Due.row("abc");
    t.due("mend 0", x.mend(0, 7), 0);
    t.due("mend 2", x.mend(2, 0), 2);
    t.due("mend with the same", x.mend(1, 1), 1);
    t.dueRow(x, "hba");
    t.due("mend with the same is a change", x.count(3), 4);
    t.due("undo it", x.undo(), 3);
    t.dueRow(x, "hba");
    t.due("undo the one before", x.undo(), 2);
    t.dueRow(x, "hbc");
    for (int wrong : new int[] {-1, 3, 59, 60, Due.LEAST, Due.MOST}) {
      t.due("mend at " + wrong, x.mend(wrong, 0), Due.INVALID);
    }
    for (int wrong : new int[] {-1, 8, Due.LEAST, Due.MOST}) {
      t.due("mend with " + wrong, x.mend(0, wrong), Due.INVALID);
    }
    t.dueRow(x, "hbc");
    t.due("wrong mends are no changes", x.count(3), 2);
  }

  private static void set() {
    int[] lowest = {1, 2, 1, 1, 1};
    int[] highest = {60, 6, 60, 20, 60};
    int[] first = {20, 3, 8, 8, 18};
    WindowCopies x = new WindowCopies();
    for (int what = 0; what < 5; what++) {
      t.due("set lowest " + what, x.set(what, lowest[what]), first[what]);
      t.due("set highest " + what, x.set(what, highest[what]), lowest[what]);
      t.due("set below " + what, x.set(what, lowest[what] - 1), Due.INVALID);
      t.due("set above " + what, x.set(what, highest[what] + 1), Due.INVALID);
      t.due("set least " + what, x.set(what, Due.LEAST), Due.INVALID);
      t.due("set most " + what, x.set(what, Due.MOST), Due.INVALID);
      t.due("setting " + what, x.count(10 + what), highest[what]);
    }
    for (int wrong : new int[] {-1, 5, Due.LEAST, Due.MOST}) {
      t.due("set of " + wrong, x.set(wrong, 3), Due.INVALID);
      t.due("set of " + wrong + " to -1", x.set(wrong, -1), Due.INVALID);
    }
    t.due("set the same", x.set(0, 60), 60);
    t.due("undo it", x.undo(), 3);
    t.due("undo 4 highest", x.undo(), 2);
    t.due("setting 4", x.count(14), 1);
  }

  private static void letter() {
    WindowCopies x = Due.row("ahc");
    t.due("letter 0", x.letter(0), 0);
    t.due("letter 1", x.letter(1), 7);
    t.due("letter 2", x.letter(2), 2);
    for (int wrong : new int[] {-1, 3, 60, Due.LEAST, Due.MOST}) {
      t.due("letter " + wrong, x.letter(wrong), Due.INVALID);
    }
    WindowCopies full = Due.row("ab".repeat(30));
    t.due("letter 59", full.letter(59), 1);
    t.due("letter 60", full.letter(60), Due.INVALID);
  }
}
