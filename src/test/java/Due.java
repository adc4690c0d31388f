// Compares answers with those that are due, and ends a test with exit code 1 if one differs.
final class Due {
  static final int INVALID = WindowCopies.INVALID_ARGUMENT;
  static final int IMPOSSIBLE = WindowCopies.NOT_POSSIBLE;
  static final int LIMIT = WindowCopies.LIMIT_REACHED;
  static final int NONE = WindowCopies.NOT_FOUND;
  static final int LEAST = Integer.MIN_VALUE;
  static final int MOST = Integer.MAX_VALUE;

  private final String test;
  private int asked = 0;
  private int wrong = 0;

  Due(String test) {
    this.test = test;
  }

  void due(String call, long got, long want) {
    asked++;
    if (got != want) {
      wrong++;
      System.out.println(test + ": " + call + " answered " + got + ", due is " + want);
    }
  }

  void end() {
    System.out.println(test + ": " + asked + " answers, " + wrong + " not as due");
    if (wrong != 0) {
      System.exit(1);
    }
  }

  // An object whose row has these letters, a to h.
  static WindowCopies row(String letters) {
    WindowCopies x = new WindowCopies();
    for (char letter : letters.toCharArray()) {
      x.put(letter - 'a');
    }
    return x;
  }

  static String letters(WindowCopies x) {
    StringBuilder letters = new StringBuilder();
    int size = x.count(0);
    for (int place = 0; place < size; place++) {
      letters.append((char) ('a' + x.letter(place)));
    }
    return letters.toString();
  }

  void dueRow(WindowCopies x, String want) {
    String got = letters(x);
    due("row " + got + ", due " + want, got.equals(want) ? 1 : 0, 1);
  }

  // The parts as a text: a letter, or a copy's distance and length.
  void dueParts(WindowCopies x, int way, String want) {
    StringBuilder got = new StringBuilder();
    int parts = x.total(way, 0);
    int place = 0;
    for (int index = 0; index < parts; index++) {
      due("part " + index + " begins", x.part(way, index, 0), place);
      int distance = x.part(way, index, 2);
      int length = x.part(way, index, 1);
      if (distance == 0) {
        got.append((char) ('a' + x.letter(place)));
      } else {
        got.append("(" + distance + "," + length + ")");
      }
      place += length;
    }
    due("parts end", place, x.count(0));
    due("parts " + got + ", due " + want, got.toString().equals(want) ? 1 : 0, 1);
  }

  static void type(WindowCopies x, String text) {
    for (char character : text.toCharArray()) {
      x.type(character);
    }
  }

  // With the settings and the row of x, but an object of its own: one object serves 512 calls.
  void dueFault(WindowCopies x, String text, int place, int reason) {
    WindowCopies y = row(letters(x));
    for (int what = 0; what < 5; what++) {
      y.set(what, x.count(10 + what));
    }
    type(y, text);
    due("fault(0) of " + text, y.fault(0), place);
    due("fault(1) of " + text, y.fault(1), reason);
    if (reason != NONE) {
      String before = letters(y);
      int states = y.count(3);
      due("read() of " + text, y.read(), IMPOSSIBLE);
      dueRow(y, before);
      due("states after read() of " + text, y.count(3), states);
    }
  }
}
