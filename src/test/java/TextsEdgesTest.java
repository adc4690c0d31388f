// Boundary cases of promises 19 to 23, a test for each sentence that names one: type, clearText, write,
// fault, read.
public final class TextsEdgesTest {
  private static final Due t = new Due("TextsEdgesTest");
  private static final String FULL = "a(1,20)(1,20)(1,19)";
  private static final String DIGITS = "0123456789";

  public static void main(String[] args) {
    initiallyEmpty();
    atMost120Characters();
    roomAgainBelow120();
    typeTooSmallOrTooLarge();
    clearTextEmptyAndFull();
    eachCharacterAtEachPlace();
    charactersBehindAnEarlierPart();
    endsTooEarly();
    endsTooEarlyWhereALongerOneWas();
    emptyTextTellsAnEmptyRow();
    noZeroAheadOfOthers();
    numbersOfTwoDigitsAtMost();
    distance0();
    distanceAboveTheWindow();
    distanceAboveTheLetters();
    lengthBelowTheLeast();
    lengthAbove20();
    moreThan60Letters();
    lowestPlace();
    lowestReason();
    onlyACopyOfTheForm();
    lookedAtDoesNotMatter();
    faultHangsOnTheSettings();
    faultOutOfRange();
    writeInPlaceOfTheText();
    writeOfAnEmptyRow();
    writeOfAFullRow();
    writeNumbersOfOneAndTwoDigits();
    writeOf120Characters();
    writeOf121Characters();
    writeOutOfRange();
    readOfAnEmptyText();
    readOfAFullRow();
    readOfTheLongestText();
    readOfCopiesAtTheirLimits();
    readWithAFault();
    readAfterAFault();
    readLeavesTheText();
    t.end();
  }

  // "a text of at most 120 characters, initially empty"
  private static void initiallyEmpty() {
    WindowCopies x = new WindowCopies();
    t.due("length", x.count(4), 0);
    t.due("clearText", x.clearText(), 0);
    t.due("fault", x.fault(0), Due.NONE);
    t.due("the first character", x.type('a'), 1);
  }

  // type: "LIMIT_REACHED if it has 120 characters", but "INVALID_ARGUMENT ... rather than ... LIMIT_REACHED"
  private static void atMost120Characters() {
    WindowCopies x = new WindowCopies();
    for (int length = 1; length <= 120; length++) {
      t.due("type " + length, x.type('a' + length % 8), length);
    }
    t.due("type 121", x.type('a'), Due.LIMIT);
    t.due("type 121 below", x.type(31), Due.INVALID);
    t.due("type 121 above", x.type(127), Due.INVALID);
    t.due("length", x.count(4), 120);
  }

  private static void roomAgainBelow120() {
    WindowCopies x = new WindowCopies();
    Due.type(x, "z".repeat(120));
    t.due("full", x.type('a'), Due.LIMIT);
    t.due("clearText", x.clearText(), 120);
    t.due("room", x.type('a'), 1);
    Due.type(x, "z".repeat(119));
    t.due("full again", x.type('a'), Due.LIMIT);
    t.due("write", x.write(0), 0);
    t.due("room after write", x.type('a'), 1);
  }

  // type: "character: 32 to 126"
  private static void typeTooSmallOrTooLarge() {
    WindowCopies x = new WindowCopies();
    for (int wrong : new int[] {31, 127, 0, 10, -1, -97, 128, 255, 97 + 256, 97 + 65536, Due.LEAST, Due.MOST}) {
      t.due("type " + wrong, x.type(wrong), Due.INVALID);
    }
    t.due("length", x.count(4), 0);
    for (int character = 32; character <= 126; character++) {
      t.due("type " + character, x.type(character), character - 31);
    }
  }

  // clearText: "Returns the length it had."
  private static void clearTextEmptyAndFull() {
    WindowCopies x = new WindowCopies();
    t.due("empty", x.clearText(), 0);
    Due.type(x, "a".repeat(120));
    t.due("full", x.clearText(), 120);
    t.due("empty again", x.clearText(), 0);
    t.due("its fault is gone", x.fault(0), Due.NONE);
    x.type('h');
    t.due("nothing is left of it", x.read(), 1);
    t.dueRow(x, "h");
  }

  // "1: a character that cannot stand at its place (its index ...)"
  private static void eachCharacterAtEachPlace() {
    dueCanStand("a", "abcdefgh(");
    dueCanStand("a(", DIGITS);
    dueCanStand("a(0", ",");
    dueCanStand("a(1", DIGITS + ",");
    dueCanStand("a(9", DIGITS + ",");
    dueCanStand("a(10", ",");
    dueCanStand("a(99", ",");
    dueCanStand("a(1,", DIGITS);
    dueCanStand("a(1,0", ")");
    dueCanStand("a(1,3", DIGITS + ")");
    dueCanStand("a(1,9", DIGITS + ")");
    dueCanStand("a(1,10", ")");
    dueCanStand("a(1,99", ")");
    dueCanStand("a(1,3)", "abcdefgh(");
    dueCanStand("", "abcdefgh(");
  }

  // What can stand has another fault than at its own index: none, further on, or the copy's own.
  private static void dueCanStand(String ahead, String can) {
    for (char character = 32; character <= 126; character++) {
      WindowCopies x = new WindowCopies();
      Due.type(x, ahead + character);
      boolean faultHere = x.fault(0) == ahead.length();
      String call = "'" + character + "' behind \"" + ahead + "\"";
      t.due("fault at " + call, faultHere ? 1 : 0, can.indexOf(character) >= 0 ? 0 : 1);
      if (faultHere) {
        t.due("reason at " + call, x.fault(1), 1);
        t.due("read of " + call, x.read(), Due.IMPOSSIBLE);
      }
    }
  }

  private static void charactersBehindAnEarlierPart() {
    WindowCopies x = new WindowCopies();
    t.dueFault(x, "abz", 2, 1);
    t.dueFault(x, "a(1,3)z", 6, 1);
    t.dueFault(x, "a(1,3)(1,z", 9, 1);
    t.dueFault(x, "a".repeat(59) + "z", 59, 1);
    t.dueFault(x, "a".repeat(60) + "z", 60, 1);
    t.dueFault(x, "z".repeat(120), 0, 1);
  }

  // "the length of the text if it ends too early"
  private static void endsTooEarly() {
    WindowCopies x = new WindowCopies();
    for (String whole : new String[] {"(1,3)", "a(1,3)", "a(11,12)", "a(1,3)(2,4)", FULL}) {
      int begin = whole.lastIndexOf('(');
      for (int end = begin + 1; end < whole.length(); end++) {
        t.dueFault(x, whole.substring(0, end), end, 1);
      }
    }
    t.dueFault(x, "a(0,0", 5, 1);
    t.dueFault(x, FULL + "(", 20, 1);
    WindowCopies full = new WindowCopies();
    full.set(1, 2);
    String text = "ab" + "(1,2)".repeat(23);
    t.dueFault(full, text + "(1,", 120, 1);
    t.dueFault(full, text + "(99", 120, 1);
    t.dueFault(full, text.substring(1) + "(1,2", 120, 1);
  }

  // A longer text that was there before leaves nothing behind the end of the one that is.
  private static void endsTooEarlyWhereALongerOneWas() {
    String whole = "a(11,12)";
    for (int end = 2; end < whole.length(); end++) {
      WindowCopies x = new WindowCopies();
      Due.type(x, whole);
      x.clearText();
      Due.type(x, whole.substring(0, end));
      t.due("place of the fault after clearText, " + end, x.fault(0), end);
      t.due("reason of the fault after clearText, " + end, x.fault(1), 1);
      t.due("read after clearText, " + end, x.read(), Due.IMPOSSIBLE);
    }
    WindowCopies written = Due.row("ab");
    Due.type(written, "aa(1,3)");
    t.due("write", written.write(0), 2);
    written.type('(');
    t.due("place of the fault after write", written.fault(0), 3);
    t.due("reason of the fault after write", written.fault(1), 1);
  }

  // "an empty text tells an empty row"
  private static void emptyTextTellsAnEmptyRow() {
    WindowCopies x = Due.row("abc");
    t.due("no fault", x.fault(0), Due.NONE);
    t.due("no reason", x.fault(1), Due.NONE);
    t.due("read", x.read(), 0);
    t.due("letters", x.count(0), 0);
    t.due("a change", x.undo(), 3);
    t.dueRow(x, "abc");
  }

  // "without 0 ahead of others"
  private static void noZeroAheadOfOthers() {
    WindowCopies x = new WindowCopies();
    t.dueFault(x, "a(01,3)", 3, 1);
    t.dueFault(x, "a(00,3)", 3, 1);
    t.dueFault(x, "a(1,03)", 5, 1);
    t.dueFault(x, "a(1,00)", 5, 1);
    t.dueFault(x, "a(0,3)", 1, 2);
    t.dueFault(x, "a(1,0)", 1, 3);
    t.dueFault(x, "abcdefgha(10,3)", 9, 2);
    t.dueFault(x, "abcdefghab(10,3)", Due.NONE, Due.NONE);
    t.dueFault(x, "a(1,10)", Due.NONE, Due.NONE);
  }

  // "both of one or two digits"
  private static void numbersOfTwoDigitsAtMost() {
    WindowCopies x = new WindowCopies();
    t.dueFault(x, "a(1,9)", Due.NONE, Due.NONE);
    t.dueFault(x, "a(1,10)", Due.NONE, Due.NONE);
    t.dueFault(x, "a(100,3)", 4, 1);
    t.dueFault(x, "a(1,100)", 6, 1);
    t.dueFault(x, "a(,3)", 2, 1);
    t.dueFault(x, "a(1,)", 4, 1);
    t.dueFault(x, "a(99,3)", 1, 2);
    t.dueFault(x, "a(1,99)", 1, 3);
  }

  // "2: the "(" of a copy with a distance that is 0"
  private static void distance0() {
    WindowCopies x = new WindowCopies();
    t.dueFault(x, "(0,3)", 0, 2);
    t.dueFault(x, "abc(0,3)", 3, 2);
    t.dueFault(x, "abc(1,3)(0,3)", 8, 2);
  }

  // "above setting 0"
  private static void distanceAboveTheWindow() {
    WindowCopies x = new WindowCopies();
    String row = "ab(2,20)(2,20)";
    t.dueFault(x, row + "(20,3)", Due.NONE, Due.NONE);
    t.dueFault(x, row + "(21,3)", 14, 2);
    x.set(0, 21);
    t.dueFault(x, row + "(21,3)", Due.NONE, Due.NONE);
    t.dueFault(x, row + "(22,3)", 14, 2);
    x.set(0, 1);
    t.dueFault(x, "aa(1,3)", Due.NONE, Due.NONE);
    t.dueFault(x, "aa(2,3)", 2, 2);
    x.set(0, 60);
    t.dueFault(x, "a(1,20)(1,20)(1,16)(57,3)", Due.NONE, Due.NONE);
    t.dueFault(x, "a(1,20)(1,20)(1,16)(61,3)", 19, 2);
  }

  // "or above the number of letters so far"
  private static void distanceAboveTheLetters() {
    WindowCopies x = new WindowCopies();
    t.dueFault(x, "(1,3)", 0, 2);
    t.dueFault(x, "a(1,3)", Due.NONE, Due.NONE);
    t.dueFault(x, "a(2,3)", 1, 2);
    t.dueFault(x, "abc(3,3)", Due.NONE, Due.NONE);
    t.dueFault(x, "abc(4,3)", 3, 2);
    t.dueFault(x, "a(1,3)(4,3)", Due.NONE, Due.NONE);
    t.dueFault(x, "a(1,3)(5,3)", 6, 2);
    x.set(0, 60);
    t.dueFault(x, "a(1,20)(1,20)(1,16)(58,3)", 19, 2);
    // The letters of the row that is there are not those of the text.
    WindowCopies row = Due.row("abcdefgh");
    t.dueFault(row, "a(2,3)", 1, 2);
  }

  // "3: the "(" of one with a length below setting 1"
  private static void lengthBelowTheLeast() {
    WindowCopies x = new WindowCopies();
    for (int least = 2; least <= 6; least++) {
      x.set(1, least);
      t.dueFault(x, "ab(2," + least + ")", Due.NONE, Due.NONE);
      t.dueFault(x, "ab(2," + (least - 1) + ")", 2, 3);
    }
    t.dueFault(x, "ab(2,0)", 2, 3);
  }

  // "or above 20"
  private static void lengthAbove20() {
    WindowCopies x = new WindowCopies();
    t.dueFault(x, "a(1,20)", Due.NONE, Due.NONE);
    t.dueFault(x, "a(1,21)", 1, 3);
    t.dueFault(x, "a(1,60)", 1, 3);
    t.dueFault(x, "a(1,99)", 1, 3);
  }

  // "4: the first character of a part by which there would be more than 60 letters"
  private static void moreThan60Letters() {
    WindowCopies x = new WindowCopies();
    t.dueFault(x, "a".repeat(60), Due.NONE, Due.NONE);
    t.dueFault(x, "a".repeat(61), 60, 4);
    t.dueFault(x, "a".repeat(120), 60, 4);
    t.dueFault(x, FULL, Due.NONE, Due.NONE);
    t.dueFault(x, FULL + "h", 19, 4);
    t.dueFault(x, FULL + "(1,3)", 19, 4);
    t.dueFault(x, "a(1,20)(1,20)(1,20)", 13, 4);
    for (int letters = 40; letters <= 59; letters++) {
      String row = "a".repeat(letters);
      int room = 60 - letters;
      if (room >= 3) {
        t.dueFault(x, row + "(1," + room + ")", Due.NONE, Due.NONE);
      }
      if (room >= 2 && room < 20) {
        t.dueFault(x, row + "(1," + (room + 1) + ")", letters, 4);
      }
    }
  }

  // "the one with the lowest place"
  private static void lowestPlace() {
    WindowCopies x = new WindowCopies();
    t.dueFault(x, "a(2,3)z", 1, 2);
    t.dueFault(x, "a(1,2)z", 1, 3);
    t.dueFault(x, "az(2,3)", 1, 1);
    t.dueFault(x, "a(1,2)(9,3)", 1, 3);
    t.dueFault(x, "a(9,3)(1,2)", 1, 2);
    t.dueFault(x, FULL + "az", 19, 4);
    t.dueFault(x, FULL + "a(0,3)", 19, 4);
    t.dueFault(x, FULL + "(1,3)(", 19, 4);
    t.dueFault(x, "a(1,2)" + "a".repeat(100), 1, 3);
    t.dueFault(x, "a(9,9)(1", 1, 2);
  }

  // "of several at one place the lowest reason"
  private static void lowestReason() {
    WindowCopies x = new WindowCopies();
    t.dueFault(x, FULL + "z", 19, 1);
    t.dueFault(x, "a(2,2)", 1, 2);
    t.dueFault(x, "a(0,0)", 1, 2);
    t.dueFault(x, "a(99,99)", 1, 2);
    t.dueFault(x, FULL + "(21,3)", 19, 2);
    t.dueFault(x, FULL + "(1,2)", 19, 3);
    t.dueFault(x, FULL + "(1,21)", 19, 3);
    t.dueFault(x, FULL + "(0,99)", 19, 2);
  }

  // "(A "(" is told by 2 to 4 only if its copy is of this form ...)"
  private static void onlyACopyOfTheForm() {
    WindowCopies x = new WindowCopies();
    t.dueFault(x, "(0,3", 4, 1);
    t.dueFault(x, "(9,3z", 4, 1);
    t.dueFault(x, "a(99,0z", 6, 1);
    t.dueFault(x, "a(1,99(", 6, 1);
    t.dueFault(x, "a(9 9,3)", 3, 1);
    t.dueFault(x, FULL + "(1,3", 23, 1);
    t.dueFault(x, FULL + "(1,3 ", 23, 1);
    t.dueFault(x, FULL + "(1,3)", 19, 4);
  }

  // "how many candidates are looked at does not matter"
  private static void lookedAtDoesNotMatter() {
    WindowCopies x = new WindowCopies();
    x.set(2, 1);
    t.dueFault(x, "aaaaaaa(7,3)", Due.NONE, Due.NONE);
    Due.type(x, "aaaaaaa(7,3)");
    t.due("read", x.read(), 10);
    t.due("no candidate that is looked at", x.candidate(7, 1, 0), Due.NONE);
    // Nor does it matter whether the way that costs least would tell it so.
    t.dueFault(x, "abcabc(3,3)(6,4)", Due.NONE, Due.NONE);
  }

  private static void faultHangsOnTheSettings() {
    WindowCopies x = new WindowCopies();
    Due.type(x, "abcd(4,4)");
    t.due("none", x.fault(0), Due.NONE);
    x.set(0, 3);
    t.due("above the window", x.fault(1), 2);
    x.undo();
    t.due("none again", x.fault(1), Due.NONE);
    x.set(1, 5);
    t.due("below the least length", x.fault(1), 3);
    t.due("its place", x.fault(0), 4);
    t.due("read", x.read(), Due.IMPOSSIBLE);
    x.set(1, 4);
    t.due("read at last", x.read(), 8);
  }

  // fault: "INVALID_ARGUMENT if what is out of range; NOT_FOUND if the text has no fault"
  private static void faultOutOfRange() {
    WindowCopies x = new WindowCopies();
    for (String text : new String[] {"", "abc", "z"}) {
      x.clearText();
      Due.type(x, text);
      for (int wrong : new int[] {-1, 2, 3, Due.LEAST, Due.MOST}) {
        t.due("fault " + wrong + " of " + text, x.fault(wrong), Due.INVALID);
      }
      t.due("fault 0 of " + text, x.fault(0), text.equals("z") ? 0 : Due.NONE);
      t.due("fault 1 of " + text, x.fault(1), text.equals("z") ? 1 : Due.NONE);
    }
  }

  // The text is seen by its length and by the row that it reads as.
  private static void dueWrite(WindowCopies x, int way, String want) {
    String row = Due.letters(x);
    t.dueParts(x, way, want);
    t.due("write of " + want, x.write(way), want.length());
    t.due("its length", x.count(4), want.length());
    t.due("its fault", x.fault(0), Due.NONE);
    if (!row.isEmpty()) {
      x.drop(row.length());
    }
    t.due("read of " + want, x.read(), row.length());
    t.dueRow(x, row);
  }

  // write: "Makes the text the parts of the row."
  private static void writeInPlaceOfTheText() {
    WindowCopies x = Due.row("abcabc");
    Due.type(x, "z".repeat(120));
    t.due("write", x.write(0), 8);
    t.due("length", x.count(4), 8);
    t.due("no fault", x.fault(0), Due.NONE);
    t.due("type behind it", x.type('h'), 9);
    t.due("read", x.read(), 7);
    t.dueRow(x, "abcabch");
    t.due("write again", x.write(0), 9);
    t.due("no change", x.undo(), 3);
    t.due("the text stays", x.count(4), 9);
  }

  private static void writeOfAnEmptyRow() {
    WindowCopies x = new WindowCopies();
    for (int way = 0; way <= 2; way++) {
      Due.type(x, "zzz");
      t.due("write " + way, x.write(way), 0);
      t.due("length", x.count(4), 0);
      t.due("no fault", x.fault(0), Due.NONE);
    }
  }

  private static void writeOfAFullRow() {
    for (int way = 0; way <= 2; way++) {
      dueWrite(Due.row("a".repeat(60)), way, FULL);
      WindowCopies letters = Due.row("ab".repeat(30));
      letters.set(0, 1);
      dueWrite(letters, way, "ab".repeat(30));
    }
  }

  private static void writeNumbersOfOneAndTwoDigits() {
    dueWrite(Due.row("abcdefgha" + "abc"), 0, "abcdefgha(9,3)");
    dueWrite(Due.row("abcdefghha" + "abc"), 0, "abcdefghha(10,3)");
    dueWrite(Due.row("a".repeat(10)), 0, "a(1,9)");
    dueWrite(Due.row("a".repeat(11)), 0, "a(1,10)");
    dueWrite(Due.row("a".repeat(21)), 0, "a(1,20)");
    WindowCopies far = Due.row("ab" + "h".repeat(56) + "ab");
    far.set(0, 60);
    far.set(1, 2);
    dueWrite(far, 0, "abh(1,20)(1,20)(1,15)(58,2)");
    for (int distance = 1; distance <= 20; distance++) {
      WindowCopies x = new WindowCopies();
      Due.type(x, "abcdefghgfedcbacegbd".substring(0, distance) + "(" + distance + ",20)");
      t.due("copy of " + distance, x.read(), distance + 20);
      t.due("write of it", x.write(0), x.count(4));
      t.due("read of it", x.read(), distance + 20);
      t.due("the first letter again", x.letter(distance), 0);
    }
  }

  private static WindowCopies widest(String letters) {
    WindowCopies x = Due.row(letters);
    x.set(0, 60);
    x.set(1, 2);
    x.set(2, 60);
    return x;
  }

  private static final String LONG = "cheebbchagagchdhdfbcbbgachgcdfdhhdchhehaacaggccdcbaahghdbgdc";

  private static void writeOf120Characters() {
    WindowCopies x = widest(LONG.substring(0, 48));
    dueWrite(x, 0, "cheebb(6,2)ag(2,2)(6,2)d(2,2)f(13,2)(16,2)(13,2)(12,2)(15,2)(12,2)(16,2)"
        + "(17,2)(10,2)(35,2)(31,2)(17,2)(32,2)(18,2)(19,2)");
    t.due("120", x.count(4), 120);
    t.due("the text is full", x.type('a'), Due.LIMIT);
    x = widest("cfgedbdgebghcdbaegddgghhedgefghhccdcfefdbebggdhegadafdhc");
    dueWrite(x, 0, "cfgedbd(5,2)bghc(9,2)aegd(13,2)(11,2)h(21,2)(19,2)(27,2)(8,2)c(21,2)(35,2)"
        + "(10,2)(26,2)(33,3)(27,2)(23,2)gada(14,2)(23,2)");
    t.due("120 with a distance of 9", x.count(4), 120);
  }

  // write: "LIMIT_REACHED if it would have more than 120 characters"
  private static void writeOf121Characters() {
    WindowCopies x = widest(LONG.substring(0, 49));
    Due.type(x, "abc");
    t.due("way 0", x.write(0), Due.LIMIT);
    t.due("the text stays", x.count(4), 3);
    t.due("and reads the same", x.fault(0), Due.NONE);
    t.due("way 1 is letters", x.write(1), 49);
    t.due("way 0 again", x.write(0), Due.LIMIT);
    t.due("the letters stay", x.count(4), 49);
    t.due("no way", x.write(3), Due.INVALID);
    WindowCopies longer = widest(LONG);
    longer.set(3, 20);
    longer.set(4, 1);
    for (int way = 0; way <= 2; way++) {
      t.due("way " + way + " of 60 letters", longer.write(way), Due.LIMIT);
    }
    t.due("the empty text stays", longer.count(4), 0);
    t.due("no change", longer.count(3), 4);
  }

  private static void writeOutOfRange() {
    for (WindowCopies x : new WindowCopies[] {new WindowCopies(), Due.row("abc")}) {
      Due.type(x, "h");
      for (int wrong : new int[] {-1, 3, Due.LEAST, Due.MOST}) {
        t.due("write " + wrong, x.write(wrong), Due.INVALID);
      }
      t.due("the text stays", x.count(4), 1);
    }
  }

  private static void readOfAnEmptyText() {
    WindowCopies x = Due.row("a".repeat(60));
    t.due("read", x.read(), 0);
    t.due("letters", x.count(0), 0);
    t.due("undo", x.undo(), 3);
    t.due("letters again", x.count(0), 60);
    x.drop(60);
    t.due("an empty row again", x.read(), 0);
  }

  private static void readOfAFullRow() {
    WindowCopies x = new WindowCopies();
    String letters = "abcdefgh".repeat(7) + "hgfe";
    Due.type(x, letters);
    t.due("60 letters", x.read(), 60);
    t.dueRow(x, letters);
    t.due("no room", x.put(0), Due.LIMIT);
    x.type('a');
    t.due("61 letters", x.read(), Due.IMPOSSIBLE);
    t.dueRow(x, letters);
    x.clearText();
    Due.type(x, FULL);
    t.due("60 letters by copies", x.read(), 60);
    t.dueRow(x, "a".repeat(60));
  }

  private static void readOfTheLongestText() {
    WindowCopies x = new WindowCopies();
    x.set(1, 2);
    String text = "abcdefgha" + "b(10,2)" + "(9,2)".repeat(20) + "cdef";
    t.due("characters", text.length(), 120);
    Due.type(x, text);
    t.due("full", x.type('a'), Due.LIMIT);
    t.due("no fault", x.fault(0), Due.NONE);
    t.due("read", x.read(), 56);
    t.due("the last letter", x.letter(55), 5);
    t.due("the text stays", x.count(4), 120);
  }

  // A copy may reach into itself, and be as far and as long as can be.
  private static void readOfCopiesAtTheirLimits() {
    dueRead("a(1,3)", "aaaa");
    dueRead("ab(2,5)", "abababa");
    dueRead("abc(3,3)", "abcabc");
    dueRead("abc(3,4)", "abcabca");
    dueRead("abc(2,3)d", "abcbcbd");
    dueRead("abc(1,20)", "abc" + "c".repeat(20));
    dueRead("abcdefghhgfedcbaacegbdf".substring(0, 20) + "(20,20)", "abcdefghhgfedcbaaceg".repeat(2));
    dueRead("a(1,3)b(5,5)", "aaaab" + "aaaab");
  }

  private static void dueRead(String text, String row) {
    WindowCopies x = Due.row("hhh");
    Due.type(x, text);
    t.due("read of " + text, x.read(), row.length());
    t.dueRow(x, row);
  }

  // read: "NOT_POSSIBLE if the text has a fault"
  private static void readWithAFault() {
    String[] texts = {"z", "abcz", "abc(", "abc(0,3)", "abc(4,3)", "abc(3,2)", "abc(3,21)", FULL + "a"};
    for (String text : texts) {
      WindowCopies x = Due.row("hgf");
      Due.type(x, text);
      t.due("read of " + text, x.read(), Due.IMPOSSIBLE);
      t.dueRow(x, "hgf");
      t.due("no change", x.count(3), 3);
      t.due("the text stays", x.count(4), text.length());
    }
  }

  private static void readAfterAFault() {
    WindowCopies x = Due.row("hgf");
    Due.type(x, "abc(3,4");
    t.due("too early", x.read(), Due.IMPOSSIBLE);
    x.type(')');
    t.due("whole", x.read(), 7);
    t.dueRow(x, "abcabca");
    x.type('z');
    t.due("with a fault again", x.read(), Due.IMPOSSIBLE);
    t.dueRow(x, "abcabca");
    x.clearText();
    x.type('b');
    t.due("a shorter one", x.read(), 1);
    t.dueRow(x, "b");
  }

  // read: "Makes the row that of the text, which stays."
  private static void readLeavesTheText() {
    WindowCopies x = new WindowCopies();
    Due.type(x, "ab(2,4)");
    for (int round = 0; round < 5; round++) {
      t.due("read", x.read(), 6);
      t.due("text", x.count(4), 7);
      x.put(7);
      x.mend(0, 5);
    }
    x.set(3, 20);
    t.due("read", x.read(), 6);
    t.dueRow(x, "ababab");
    t.due("the settings stay", x.count(13), 20);
    t.due("type behind it", x.type('h'), 8);
    t.due("read once more", x.read(), 7);
    t.dueRow(x, "abababh");
  }
}
