// Promises 16 to 18, and what is a change and what is none: keep, restore, undo.
public final class HistoryTest {
  private static final Due t = new Due("HistoryTest");

  public static void main(String[] args) {
    keep();
    restore();
    undo();
    fourStates();
    changes();
    noChanges();
    textStays();
    t.end();
  }

  private static void keep() {
    WindowCopies x = new WindowCopies();
    t.due("keep of an empty row", x.keep(), 0);
    t.due("snapshot", x.count(5), 1);
    x.put(0);
    x.put(1);
    t.due("keep", x.keep(), 2);
    x.put(2);
    t.due("restore the latter", x.restore(), 2);
    t.dueRow(x, "ab");
  }

  private static void restore() {
    WindowCopies x = Due.row("ab");
    t.due("no snapshot", x.restore(), Due.IMPOSSIBLE);
    t.due("no change", x.count(3), 2);
    x.keep();
    x.drop(1);
    x.set(0, 7);
    x.mend(0, 5);
    t.due("restore", x.restore(), 2);
    t.dueRow(x, "ab");
    t.due("setting restored", x.count(10), 20);
    x.put(3);
    t.due("restore again", x.restore(), 2);
    t.dueRow(x, "ab");
    t.due("undo the second restore", x.undo(), 3);
    t.dueRow(x, "abd");
    t.due("undo the put", x.undo(), 2);
    t.due("undo the first restore", x.undo(), 1);
    t.dueRow(x, "f");
    t.due("setting before it", x.count(10), 7);
    t.due("snapshot stays", x.count(5), 1);
  }

  private static void undo() {
    WindowCopies x = new WindowCopies();
    t.due("nothing to undo", x.undo(), Due.IMPOSSIBLE);
    x.put(0);
    x.put(1);
    t.due("undo", x.undo(), 1);
    t.dueRow(x, "a");
    x.put(2);
    t.due("states", x.count(3), 2);
    t.due("undo the other put", x.undo(), 1);
    t.due("undo the first", x.undo(), 0);
    t.due("row is empty", x.count(0), 0);
    t.due("nothing left", x.undo(), Due.IMPOSSIBLE);
  }

  private static void fourStates() {
    WindowCopies x = Due.row("abcdefgh");
    t.due("states", x.count(3), 4);
    for (int left = 3; left >= 0; left--) {
      t.due("undo", x.undo(), left);
      t.dueRow(x, "abcdefgh".substring(0, 4 + left));
    }
    t.due("no fifth", x.undo(), Due.IMPOSSIBLE);
    t.dueRow(x, "abcd");
    for (int round = 0; round < 3; round++) {
      x.put(6);
      x.put(7);
      t.due("undo after a full ring", x.undo(), round + 1);
    }
    t.dueRow(x, "abcdggg");
  }

  private static void changes() {
    WindowCopies x = Due.row("abc");
    x.keep();
    Due.type(x, "h");
    while (x.count(3) > 0) {
      x.undo();
    }
    x.put(0);
    t.due("put is one", x.count(3), 1);
    x.drop(1);
    t.due("drop is one", x.count(3), 2);
    x.set(0, 20);
    t.due("set is one", x.count(3), 3);
    t.due("read", x.read(), 1);
    t.due("read is one", x.count(3), 4);
    t.due("undo of read", x.undo(), 3);
    t.due("row before it", x.count(0), 0);
    x.undo();
    t.due("restore", x.restore(), 3);
    t.due("restore is one", x.count(3), 3);
    t.due("mend", x.mend(0, 0), 0);
    t.due("mend is one", x.count(3), 4);
  }

  private static void noChanges() {
    WindowCopies x = Due.row("a");
    x.keep();
    x.type('b');
    x.write(0);
    x.clearText();
    x.letter(0);
    x.put(8);
    x.drop(2);
    x.drop(0);
    x.mend(1, 0);
    x.set(0, 0);
    x.type('z');
    x.read();
    t.due("none is a change", x.count(3), 1);
    t.due("undo", x.undo(), 0);
    t.due("undo is none", x.count(3), 0);
    t.due("snapshot stays", x.restore(), 1);
  }

  private static void textStays() {
    WindowCopies x = Due.row("a");
    Due.type(x, "bc");
    x.keep();
    x.type('d');
    x.put(1);
    t.due("undo", x.undo(), 1);
    t.due("text after undo", x.count(4), 3);
    t.due("restore", x.restore(), 1);
    t.due("text after restore", x.count(4), 3);
    t.due("read", x.read(), 3);
    t.dueRow(x, "bcd");
  }
}
