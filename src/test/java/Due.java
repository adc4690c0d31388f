// Compares answers with those that are due, and ends a test with exit code 1 if one differs.
final class Due {
  static final int INVALID = WindowCopies.INVALID_ARGUMENT;
  static final int IMPOSSIBLE = WindowCopies.NOT_POSSIBLE;
  static final int LIMIT = WindowCopies.LIMIT_REACHED;
  static final int NONE = WindowCopies.NOT_FOUND;
  static final int LEAST = Integer.MIN_VALUE;
  static final int MOST = Integer.MAX_VALUE;

  private final String test;
  private int asked = 0;
  private int wrong = 0;

  Due(String test) {
    this.test = test;
  }

  void due(String call, long got, long want) {
    asked++;
    if (got != want) {
      wrong++;
      System.out.println(test + ": " + call + " answered " + got + ", due is " + want);
    }
  }

  void end() {
    System.out.println(test + ": " + asked + " answers, " + wrong + " not as due");
    if (wrong != 0) {
      System.exit(1);
    }
  }

  // An object whose row has these letters, a to h.
  static WindowCopies row(String letters) {
    WindowCopies x = new WindowCopies();
    for (char letter : letters.toCharArray()) {
      x.put(letter - 'a');
    }
    return x;
  }

  static String letters(WindowCopies x) {
    StringBuilder letters = new StringBuilder();
    for (int place = 0; place < x.count(0); place++) {
      letters.append((char) ('a' + x.letter(place)));
    }
    return letters.toString();
  }

  void dueRow(WindowCopies x, String want) {
    String got = letters(x);
    due("row " + got + ", due " + want, got.equals(want) ? 1 : 0, 1);
  }

  static void type(WindowCopies x, String text) {
    for (char character : text.toCharArray()) {
      x.type(character);
    }
  }

  // A new text in place of the one that was.
  void dueFault(WindowCopies x, String text, int place, int reason) {
    x.clearText();
    type(x, text);
    due("fault(0) of " + text, x.fault(0), place);
    due("fault(1) of " + text, x.fault(1), reason);
    if (reason != NONE) {
      String before = letters(x);
      int states = x.count(3);
      due("read() of " + text, x.read(), IMPOSSIBLE);
      dueRow(x, before);
      due("states after read() of " + text, x.count(3), states);
    }
  }
}
