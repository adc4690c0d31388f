// Promises 7 to 9: candidate, found, isCopy.
public final class CopiesTest {
  private static final Due t = new Due("CopiesTest");

  public static void main(String[] args) {
    candidate();
    candidateLimits();
    candidateWrong();
    found();
    foundLimits();
    foundWrong();
    isCopy();
    isCopyLimits();
    t.end();
  }

  private static void candidate() {
    WindowCopies x = Due.row("abcdabeabcd");
    t.due("first distance", x.candidate(7, 0, 0), 3);
    t.due("first reach", x.candidate(7, 0, 1), 2);
    t.due("second distance", x.candidate(7, 1, 0), 7);
    t.due("second reach", x.candidate(7, 1, 1), 4);
    t.due("no third", x.candidate(7, 2, 0), Due.NONE);
    t.due("none at 0", x.candidate(0, 0, 0), Due.NONE);
    t.due("one like letter is none", x.candidate(10, 0, 0), Due.NONE);
    WindowCopies same = Due.row("aaaa");
    t.due("into itself", same.candidate(1, 0, 1), 3);
    t.due("at 2: second", same.candidate(2, 1, 0), 2);
    t.due("at 2: its reach", same.candidate(2, 1, 1), 2);
    t.due("none at the last place", same.candidate(3, 0, 0), Due.NONE);
    same.mend(3, 1);
    t.due("mended: reach", same.candidate(1, 0, 1), 2);
    t.due("mended: none at 2", same.candidate(2, 0, 0), Due.NONE);
    same.drop(1);
    t.due("dropped: none at 2", same.candidate(2, 0, 0), Due.NONE);
  }

  private static void candidateLimits() {
    WindowCopies x = Due.row("a".repeat(60));
    t.due("reach at 1", x.candidate(1, 0, 1), 20);
    t.due("reach at 40", x.candidate(40, 0, 1), 20);
    t.due("reach at 41", x.candidate(41, 0, 1), 19);
    t.due("reach at 58", x.candidate(58, 7, 1), 2);
    t.due("eighth", x.candidate(58, 7, 0), 8);
    t.due("ninth", x.candidate(58, 8, 0), Due.NONE);
    x.set(2, 60);
    t.due("twentieth", x.candidate(58, 19, 0), 20);
    t.due("beyond the window", x.candidate(58, 20, 0), Due.NONE);
    x.set(0, 60);
    t.due("58th", x.candidate(58, 57, 0), 58);
    t.due("59th", x.candidate(58, 58, 0), Due.NONE);
    x.set(2, 1);
    t.due("only one looked at", x.candidate(58, 1, 0), Due.NONE);
    WindowCopies far = Due.row("abcab");
    far.set(0, 3);
    t.due("at the window", far.candidate(3, 0, 0), 3);
    far.set(0, 2);
    t.due("above the window", far.candidate(3, 0, 0), Due.NONE);
  }

  private static void candidateWrong() {
    WindowCopies x = Due.row("aaaa");
    for (int wrong : new int[] {-1, 4, Due.LEAST, Due.MOST}) {
      t.due("candidate at " + wrong, x.candidate(wrong, 0, 0), Due.INVALID);
    }
    for (int wrong : new int[] {-1, 2, Due.LEAST, Due.MOST}) {
      t.due("candidate's " + wrong, x.candidate(1, 0, wrong), Due.INVALID);
      t.due("candidate's " + wrong + " of none", x.candidate(1, 9, wrong), Due.INVALID);
    }
    t.due("index -1", x.candidate(1, -1, 0), Due.INVALID);
    t.due("least index", x.candidate(1, Due.LEAST, 0), Due.INVALID);
    t.due("index 1", x.candidate(1, 1, 0), Due.NONE);
    t.due("most index", x.candidate(1, Due.MOST, 0), Due.NONE);
  }

  private static void found() {
    WindowCopies x = Due.row("abcdabeabcd");
    t.due("distance", x.found(7, 0), 7);
    t.due("length", x.found(7, 1), 4);
    t.due("saving", x.found(7, 2), 14);
    t.due("candidates", x.found(7, 3), 2);
    t.due("too short", x.found(4, 0), Due.NONE);
    t.due("too short, length", x.found(4, 1), Due.NONE);
    t.due("too short, saving", x.found(4, 2), Due.NONE);
    t.due("too short, candidates", x.found(4, 3), 1);
    t.due("none at 0", x.found(0, 0), Due.NONE);
    t.due("candidates at 0", x.found(0, 3), 0);
    WindowCopies again = Due.row("abcabcabc");
    t.due("of several the least distance", again.found(6, 0), 3);
    t.due("their number", again.found(6, 3), 2);
  }

  private static void foundLimits() {
    WindowCopies x = Due.row("abcdabeabcd");
    x.set(2, 1);
    t.due("one looked at: none", x.found(7, 0), Due.NONE);
    t.due("one looked at: number", x.found(7, 3), 2);
    x.set(1, 2);
    t.due("one looked at: distance", x.found(7, 0), 3);
    t.due("one looked at: length", x.found(7, 1), 2);
    t.due("saves below 0", x.found(7, 2), -2);
    x.set(2, 8);
    x.set(1, 4);
    t.due("just long enough", x.found(7, 1), 4);
    x.set(1, 5);
    t.due("not long enough", x.found(7, 1), Due.NONE);
    x.set(1, 3);
    x.set(0, 6);
    t.due("out of the window", x.found(7, 0), Due.NONE);
    t.due("in the window", x.found(7, 3), 1);
    WindowCopies same = Due.row("a".repeat(60));
    t.due("length at most 20", same.found(1, 1), 20);
    t.due("saving", same.found(1, 2), 142);
    t.due("candidates in the window", same.found(50, 3), 20);
    same.set(0, 60);
    t.due("candidates in the row", same.found(50, 3), 50);
    same.set(3, 20);
    same.set(4, 1);
    t.due("greatest saving", same.found(1, 2), 399);
    same.set(3, 1);
    same.set(4, 60);
    same.set(1, 2);
    t.due("least saving", same.found(58, 2), -58);
  }

  private static void foundWrong() {
    WindowCopies x = Due.row("aaaa");
    for (int wrong : new int[] {-1, 4, Due.LEAST, Due.MOST}) {
      t.due("found at " + wrong, x.found(wrong, 0), Due.INVALID);
      t.due("found's " + wrong, x.found(1, wrong), Due.INVALID);
      t.due("found's " + wrong + " where none is", x.found(0, wrong), Due.INVALID);
    }
  }

  private static void isCopy() {
    WindowCopies x = Due.row("abcabcd");
    t.due("copy", x.isCopy(3, 3, 3), 1);
    t.due("too long", x.isCopy(3, 3, 4), 0);
    t.due("too short", x.isCopy(3, 3, 2), 0);
    t.due("other distance", x.isCopy(3, 2, 3), 0);
    t.due("reaches behind the row", x.isCopy(4, 3, 4), 0);
    t.due("ahead of the row", x.isCopy(3, 4, 3), 0);
    t.due("distance 0", x.isCopy(3, 0, 3), 0);
    t.due("distance -3", x.isCopy(3, -3, 3), 0);
    t.due("least distance", x.isCopy(3, Due.LEAST, 3), 0);
    t.due("most distance", x.isCopy(3, Due.MOST, 3), 0);
    t.due("length 0", x.isCopy(3, 3, 0), 0);
    t.due("least length", x.isCopy(3, 3, Due.LEAST), 0);
    t.due("most length", x.isCopy(3, 3, Due.MOST), 0);
    for (int wrong : new int[] {-1, 7, Due.LEAST, Due.MOST}) {
      t.due("isCopy at " + wrong, x.isCopy(wrong, 1, 3), Due.INVALID);
      t.due("isCopy at " + wrong + " of none", x.isCopy(wrong, 0, 0), Due.INVALID);
    }
  }

  private static void isCopyLimits() {
    WindowCopies x = Due.row("a".repeat(60));
    t.due("length 20", x.isCopy(30, 7, 20), 1);
    t.due("length 21", x.isCopy(30, 7, 21), 0);
    t.due("up to the end", x.isCopy(57, 1, 3), 1);
    t.due("behind the end", x.isCopy(58, 1, 3), 0);
    t.due("at the window", x.isCopy(30, 20, 3), 1);
    t.due("above the window", x.isCopy(30, 21, 3), 0);
    x.set(2, 1);
    t.due("not looked at", x.isCopy(30, 20, 3), 1);
    x.set(0, 60);
    t.due("in a wider window", x.isCopy(30, 30, 3), 1);
    t.due("wider than the place", x.isCopy(30, 31, 3), 0);
    x.set(1, 2);
    t.due("shorter", x.isCopy(30, 1, 2), 1);
    t.due("length 1", x.isCopy(30, 1, 1), 0);
  }
}
