// Promises 19 to 23: type, clearText, write, fault, read.
public final class TextsTest {
  private static final Due t = new Due("TextsTest");

  public static void main(String[] args) {
    type();
    clearText();
    write();
    writeLimit();
    wellFormed();
    wrongCharacters();
    endsTooEarly();
    wrongDistances();
    wrongLengths();
    tooManyLetters();
    faultWrong();
    read();
    t.end();
  }

  private static void type() {
    WindowCopies x = new WindowCopies();
    t.due("space", x.type(32), 1);
    t.due("tilde", x.type(126), 2);
    for (int wrong : new int[] {31, 127, 0, -1, Due.LEAST, Due.MOST}) {
      t.due("type " + wrong, x.type(wrong), Due.INVALID);
    }
    for (int size = 3; size <= 120; size++) {
      t.due("type to " + size, x.type('a'), size);
    }
    t.due("type to 121", x.type('a'), Due.LIMIT);
    t.due("wrong type to 121", x.type(127), Due.INVALID);
    t.due("length", x.count(4), 120);
  }

  private static void clearText() {
    WindowCopies x = new WindowCopies();
    t.due("empty", x.clearText(), 0);
    Due.type(x, "abc");
    t.due("three", x.clearText(), 3);
    t.due("empty now", x.count(4), 0);
    t.due("empty again", x.clearText(), 0);
    x.type('h');
    t.due("new text", x.read(), 1);
    t.dueRow(x, "h");
  }

  // What the text holds can be seen by its length and by the row that it reads as.
  private static void dueText(WindowCopies x, int way, String want) {
    String row = Due.letters(x);
    t.due("write " + want, x.write(way), want.length());
    t.due("its length", x.count(4), want.length());
    x.drop(row.length());
    t.due("read it", x.read(), row.length());
    t.dueRow(x, row);
  }

  private static void write() {
    dueText(Due.row("abcgbcdehabcde"), 0, "abcgbcdeh(9,3)de");
    dueText(Due.row("abcgbcdehabcde"), 1, "abcgbcdeha(6,4)");
    dueText(Due.row("abcgbcdehabcde"), 2, "abcgbcdeha(6,4)");
    dueText(Due.row("a".repeat(60)), 0, "a(1,20)(1,20)(1,19)");
    dueText(Due.row("abcdefgh" + "ha" + "abc"), 0, "abcdefghha(10,3)");
    WindowCopies x = Due.row("aaaa");
    Due.type(x, "zzzzzzzzzz");
    t.due("in place of the text that was", x.write(0), 6);
    t.due("it stays", x.count(4), 6);
    for (int wrong : new int[] {-1, 3, Due.LEAST, Due.MOST}) {
      t.due("write " + wrong, x.write(wrong), Due.INVALID);
    }
    t.due("it still stays", x.count(4), 6);
    // Where each character stands is told by the faults of a row that the text no longer fits.
    x.set(0, 1);
    x.set(1, 4);
    t.due("the copy's place", x.fault(0), 1);
    t.due("its length", x.fault(1), 3);
    WindowCopies empty = new WindowCopies();
    Due.type(empty, "ab");
    t.due("write of an empty row", empty.write(0), 0);
    t.due("text is empty", empty.count(4), 0);
  }

  // Copies of two letters are told by five or six characters, so that the text gets longer than the row.
  private static void writeLimit() {
    String letters = "cheebbchagagchdhdfbcbbgachgcdfdhhdchhehaacaggccdcbaahghdbgdc";
    WindowCopies x = widest(letters.substring(0, 48));
    dueText(x, 0, "cheebb(6,2)ag(2,2)(6,2)d(2,2)f(13,2)(16,2)(13,2)(12,2)(15,2)(12,2)(16,2)"
        + "(17,2)(10,2)(35,2)(31,2)(17,2)(32,2)(18,2)(19,2)");
    t.due("120 characters", x.count(4), 120);
    x = widest(letters.substring(0, 49));
    Due.type(x, "abc");
    t.due("121 characters", x.write(0), Due.LIMIT);
    t.due("the text that was stays", x.count(4), 3);
    t.due("wrong way", x.write(3), Due.INVALID);
    t.due("way 1 tells letters", x.write(1), 49);
    x = widest("cfgedbdgebghcdbaegddgghhedgefghhccdcfefdbebggdhegadafdhc");
    dueText(x, 0, "cfgedbd(5,2)bghc(9,2)aegd(13,2)(11,2)h(21,2)(19,2)(27,2)(8,2)c(21,2)(35,2)"
        + "(10,2)(26,2)(33,3)(27,2)(23,2)gada(14,2)(23,2)");
    t.due("120 characters with a distance 9", x.count(4), 120);
    x = widest(letters);
    t.due("156 characters", x.write(0), Due.LIMIT);
    t.due("an empty text stays", x.count(4), 0);
  }

  private static WindowCopies widest(String letters) {
    WindowCopies x = Due.row(letters);
    x.set(0, 60);
    x.set(1, 2);
    x.set(2, 60);
    return x;
  }

  private static void wellFormed() {
    WindowCopies x = new WindowCopies();
    t.dueFault(x, "", Due.NONE, Due.NONE);
    t.dueFault(x, "abcdefgh", Due.NONE, Due.NONE);
    t.dueFault(x, "ab(2,4)c", Due.NONE, Due.NONE);
    t.dueFault(x, "a(1,20)(20,20)", Due.NONE, Due.NONE);
    t.dueFault(x, "a(1,3)", Due.NONE, Due.NONE);
    x.set(2, 1);
    t.dueFault(x, "aaaaaaa(7,3)", Due.NONE, Due.NONE);
  }

  private static void wrongCharacters() {
    WindowCopies x = new WindowCopies();
    t.dueFault(x, "i", 0, 1);
    t.dueFault(x, "`", 0, 1);
    t.dueFault(x, "A", 0, 1);
    t.dueFault(x, " ", 0, 1);
    t.dueFault(x, "ab ", 2, 1);
    t.dueFault(x, "a1", 1, 1);
    t.dueFault(x, "a)", 1, 1);
    t.dueFault(x, "a,", 1, 1);
    t.dueFault(x, "a((", 2, 1);
    t.dueFault(x, "a(,3)", 2, 1);
    t.dueFault(x, "a(a", 2, 1);
    t.dueFault(x, "a(-1,3)", 2, 1);
    t.dueFault(x, "a(1)", 3, 1);
    t.dueFault(x, "a(1a", 3, 1);
    t.dueFault(x, "a(123", 4, 1);
    t.dueFault(x, "a(12a", 4, 1);
    t.dueFault(x, "a(01,3)", 3, 1);
    t.dueFault(x, "a(00,3)", 3, 1);
    t.dueFault(x, "a(1,,", 4, 1);
    t.dueFault(x, "a(1,)", 4, 1);
    t.dueFault(x, "a(1,a", 4, 1);
    t.dueFault(x, "a(1,3,", 5, 1);
    t.dueFault(x, "a(1,3(", 5, 1);
    t.dueFault(x, "a(1,03)", 5, 1);
    t.dueFault(x, "a(1,123)", 6, 1);
    t.dueFault(x, "a(1,12,", 6, 1);
    t.dueFault(x, "a(1,3/", 5, 1);
    t.dueFault(x, "a(1:", 3, 1);
    t.dueFault(x, "a(1/", 3, 1);
    t.dueFault(x, "a(:", 2, 1);
    t.dueFault(x, "a(/", 2, 1);
    t.dueFault(x, "abzc(", 2, 1);
    // Such a "(" is not told by 2 to 4.
    t.dueFault(x, "(9,9x", 4, 1);
    t.dueFault(x, "(0,0", 4, 1);
  }

  private static void endsTooEarly() {
    WindowCopies x = new WindowCopies();
    String whole = "a(11,12";
    for (int end = 2; end <= whole.length(); end++) {
      t.dueFault(x, whole.substring(0, end), end, 1);
    }
    t.dueFault(x, "a(1,3", 5, 1);
    t.dueFault(x, "a(0", 3, 1);
    t.dueFault(x, "a".repeat(119) + "(", 60, 4);
    t.dueFault(x, "a(1,20)(1,20)(1,19)(9", 21, 1);
  }

  private static void wrongDistances() {
    WindowCopies x = new WindowCopies();
    t.dueFault(x, "(1,3)", 0, 2);
    t.dueFault(x, "abc(0,3)", 3, 2);
    t.dueFault(x, "abc(4,3)", 3, 2);
    t.dueFault(x, "abc(3,3)", Due.NONE, Due.NONE);
    t.dueFault(x, "a(1,20)(20,3)", Due.NONE, Due.NONE);
    t.dueFault(x, "a(1,20)(21,3)", 7, 2);
    x.set(0, 2);
    t.dueFault(x, "abc(3,3)", 3, 2);
    t.dueFault(x, "abc(2,3)", Due.NONE, Due.NONE);
    x.set(0, 60);
    t.dueFault(x, "a(1,20)(21,3)", Due.NONE, Due.NONE);
    t.dueFault(x, "a(1,20)(22,3)", 7, 2);
    t.dueFault(x, "abc(99,99)", 3, 2);
    t.dueFault(x, "abc(0,0)", 3, 2);
    t.dueFault(x, "abc(4,3)z", 3, 2);
    t.dueFault(x, "abz(4,3)", 2, 1);
  }

  private static void wrongLengths() {
    WindowCopies x = new WindowCopies();
    t.dueFault(x, "abc(3,2)", 3, 3);
    t.dueFault(x, "abc(3,0)", 3, 3);
    t.dueFault(x, "abc(3,21)", 3, 3);
    t.dueFault(x, "abc(3,99)", 3, 3);
    t.dueFault(x, "abc(3,20)", Due.NONE, Due.NONE);
    x.set(1, 2);
    t.dueFault(x, "abc(3,2)", Due.NONE, Due.NONE);
    t.dueFault(x, "abc(3,1)", 3, 3);
    x.set(1, 6);
    t.dueFault(x, "abc(3,5)", 3, 3);
    t.dueFault(x, "abc(3,6)", Due.NONE, Due.NONE);
    t.dueFault(x, "abc(3,5)(9,9)", 3, 3);
  }

  private static void tooManyLetters() {
    WindowCopies x = new WindowCopies();
    String full = "a(1,20)(1,20)(1,19)";
    t.dueFault(x, full, Due.NONE, Due.NONE);
    t.dueFault(x, full + "a", 19, 4);
    t.dueFault(x, full + "z", 19, 1);
    t.dueFault(x, full + "(1,3)", 19, 4);
    t.dueFault(x, full + "(1,2)", 19, 3);
    t.dueFault(x, full + "(0,3)", 19, 2);
    t.dueFault(x, full + "(1,3", 23, 1);
    t.dueFault(x, "a(1,20)(1,20)(1,20)", 13, 4);
    t.dueFault(x, "a(1,20)(1,20)(1,17)(1,3)", 19, 4);
    t.dueFault(x, "a(1,20)(1,20)(1,17)(1,3)z", 19, 4);
    t.dueFault(x, "a(1,20)(1,20)(1,17)aaa", 21, 4);
    t.dueFault(x, "a".repeat(60), Due.NONE, Due.NONE);
    t.dueFault(x, "a".repeat(61), 60, 4);
    t.dueFault(x, "a".repeat(120), 60, 4);
  }

  private static void faultWrong() {
    WindowCopies x = new WindowCopies();
    for (int wrong : new int[] {-1, 2, Due.LEAST, Due.MOST}) {
      t.due("fault " + wrong + " of none", x.fault(wrong), Due.INVALID);
    }
    x.type('z');
    for (int wrong : new int[] {-1, 2, Due.LEAST, Due.MOST}) {
      t.due("fault " + wrong, x.fault(wrong), Due.INVALID);
    }
  }

  private static void read() {
    WindowCopies x = Due.row("hhh");
    Due.type(x, "ab(2,5)c(3,4)");
    t.due("read", x.read(), 12);
    t.dueRow(x, "abababacbacb");
    t.due("text stays", x.count(4), 13);
    t.due("read again", x.read(), 12);
    t.due("read is a change", x.undo(), 3);
    t.due("undo it", x.undo(), 2);
    t.dueRow(x, "hhh");
    x.set(3, 20);
    t.due("read", x.read(), 12);
    t.due("settings stay", x.count(13), 20);
    x.clearText();
    t.due("an empty text", x.read(), 0);
    t.due("an empty row", x.count(0), 0);
    t.due("undo", x.undo(), 3);
    t.dueRow(x, "abababacbacb");
    x.clearText();
    Due.type(x, "a(1,20)(1,20)(1,19)");
    t.due("a full row", x.read(), 60);
    t.due("no more", x.put(0), Due.LIMIT);
  }
}
