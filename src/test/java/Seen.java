// What an object tells about itself, as a text: two objects with the same state tell the same.
final class Seen {
  private Seen() {
  }

  // Uses the object up: what is hidden (the text, the snapshot, the history) is seen by bringing it back.
  static String all(WindowCopies x) {
    StringBuilder seen = new StringBuilder(now(x));
    int states = x.count(3);
    for (int state = 0; state < states; state++) {
      seen.append("\nundo ").append(x.undo()).append(now(x));
    }
    seen.append("\nread ").append(x.read()).append(now(x));
    seen.append("\nrestore ").append(x.restore()).append(now(x));
    return seen.toString();
  }

  // Some forty calls at most, so that one object's 512 serve for all states.
  private static String now(WindowCopies x) {
    StringBuilder seen = new StringBuilder("\ncounts");
    for (int what = 0; what <= 5; what++) {
      seen.append(' ').append(x.count(what));
    }
    for (int what = 10; what <= 14; what++) {
      seen.append(' ').append(x.count(what));
    }
    seen.append("\nletters");
    int size = x.count(0);
    for (int place = 0; place < size; place++) {
      if (place < 8 || place >= size - 8) {
        seen.append(' ').append(x.letter(place));
      }
    }
    seen.append("\ntotals");
    for (int way = 0; way <= 2; way++) {
      seen.append(' ').append(x.total(way, 0)).append(' ').append(x.total(way, 2));
    }
    seen.append("\nfault ").append(x.fault(0)).append(' ').append(x.fault(1));
    return seen.toString();
  }
}
