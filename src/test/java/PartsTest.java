// Promises 10 to 15: part, total, partAt, parting, repeat, count.
public final class PartsTest {
  private static final Due t = new Due("PartsTest");

  public static void main(String[] args) {
    found();
    weighedOneLater();
    weighedTwoLater();
    weighedAgain();
    weighedEqual();
    weighedSavesNothing();
    cheapest();
    cheapestOfSeveral();
    fullRow();
    part();
    total();
    partAt();
    parting();
    repeat();
    count();
    cheapestWay();
    t.end();
  }

  private static void found() {
    WindowCopies x = Due.row("abcgbcdehabcde");
    t.dueParts(x, 0, "abcgbcdeh(9,3)de");
    x.set(1, 2);
    t.dueParts(x, 0, "abcg(3,2)deh(9,3)(6,2)");
    x.set(4, 60);
    t.dueParts(x, 0, "abcg(3,2)deh(9,3)(6,2)");
    x.set(0, 8);
    t.dueParts(x, 0, "abcg(3,2)deha(6,4)");
    t.dueParts(Due.row("a".repeat(60)), 0, "a(1,20)(1,20)(1,19)");
  }

  private static void weighedOneLater() {
    WindowCopies x = Due.row("abcgbcdehabcde");
    t.dueParts(x, 1, "abcgbcdeha(6,4)");
    t.due("total 0", x.total(0, 2), 106);
    t.due("total 1", x.total(1, 2), 98);
  }

  private static void weighedTwoLater() {
    WindowCopies x = Due.row("abcgcdefhabcdef");
    t.dueParts(x, 0, "abcgcdefh(9,3)(7,3)");
    t.dueParts(x, 1, "abcgcdefhab(7,4)");
    x.drop(1);
    t.dueParts(x, 1, "abcgcdefh(9,3)de");
  }

  // What was weighed for a row that was before must not count any more.
  private static void weighedAgain() {
    WindowCopies x = Due.row("abcgbcdehabcde");
    t.dueParts(x, 1, "abcgbcdeha(6,4)");
    x.mend(12, 7);
    t.dueParts(x, 1, "abcgbcdeh(9,3)he");
    WindowCopies y = Due.row("abhabhab");
    y.set(1, 2);
    y.set(3, 10);
    t.dueParts(y, 1, "abh(3,5)");
    y.drop(3);
    t.due("saves", y.found(3, 2), 2);
    t.dueParts(y, 1, "abh(3,2)");
    t.dueParts(y, 2, "abh(3,2)");
  }

  private static void weighedEqual() {
    t.dueParts(Due.row("a".repeat(60)), 1, "a(1,20)(1,20)(1,19)");
    WindowCopies x = Due.row("abcgbcdhabcd");
    t.due("saves here", x.found(8, 2), 6);
    t.due("saves as much at the next place", x.found(9, 2), 6);
    t.dueParts(x, 1, "abcgbcdh(8,3)d");
  }

  private static void weighedSavesNothing() {
    WindowCopies x = Due.row("abcabc");
    x.set(3, 6);
    t.due("saves 0", x.found(3, 2), 0);
    t.dueParts(x, 1, "abcabc");
    t.dueParts(x, 0, "abc(3,3)");
    x.set(4, 17);
    t.due("saves 1", x.found(3, 2), 1);
    t.dueParts(x, 1, "abc(3,3)");
  }

  private static void cheapest() {
    WindowCopies x = Due.row("abcgbcdehabcde");
    t.dueParts(x, 2, "abcgbcdeha(6,4)");
    WindowCopies parted = Due.row("abcdhefghabcdefgh");
    t.dueParts(parted, 2, "abcdhefgh(9,4)(8,4)");
    t.dueParts(Due.row("abcdheabcfhgabcd"), 2, "abcdhe(6,3)fhg(12,4)");
    WindowCopies shorter = Due.row("abcdgdefhabcdef");
    t.dueParts(shorter, 2, "abcdgdefh(9,4)ef");
    shorter.set(3, 10);
    t.dueParts(shorter, 0, "abcdgdefh(9,4)ef");
    t.dueParts(shorter, 2, "abcdgdefh(9,3)(7,3)");
    x.set(2, 1);
    x.set(0, 60);
    t.due("only the first candidate", x.total(2, 2), 98);
  }

  private static void cheapestOfSeveral() {
    WindowCopies x = Due.row("abcabc");
    x.set(3, 6);
    t.dueParts(x, 2, "abcabc");
    // A letter and then a copy costs the same as a copy and then a letter.
    t.dueParts(Due.row("a".repeat(22)), 2, "aa(1,20)");
    // Two copies cost the same whatever their lengths: the first is as long as can be, not the second.
    t.dueParts(Due.row("a".repeat(26)), 2, "a(1,20)(1,5)");
    // Both copies of the last letters cost the same: the first is the near one, though the far one is longer.
    WindowCopies near = Due.row("abcdhdefgabcfabcdefg");
    t.dueParts(near, 0, "abcdhdefg(9,3)f(13,4)(11,3)");
    t.dueParts(near, 2, "abcdhdefg(9,3)f(4,3)(11,4)");
    t.due("parting", near.parting(0, 2), 13);
    near.set(2, 1);
    t.dueParts(near, 0, "abcdhdefg(9,3)f(4,3)(11,4)");
  }

  // The last places of a row of 60 letters, told by a copy of the first ones.
  private static void fullRow() {
    WindowCopies x = Due.row("abc" + "h".repeat(54) + "abc");
    x.set(0, 60);
    WindowCopies y = Due.row("ab" + "h".repeat(56) + "ab");
    y.set(0, 60);
    y.set(1, 2);
    y.set(3, 10);
    for (int way = 0; way <= 2; way++) {
      t.dueParts(x, way, "abch(1,20)(1,20)(1,13)(57,3)");
      t.dueParts(y, way, "abh(1,20)(1,20)(1,15)(58,2)");
    }
  }

  private static void part() {
    WindowCopies x = Due.row("abcabcdabcd");
    int[][] want = {{0, 1, 0, 8}, {1, 1, 0, 8}, {2, 1, 0, 8}, {3, 3, 3, 18}, {6, 1, 0, 8}, {7, 4, 4, 18}};
    for (int way = 0; way <= 2; way++) {
      for (int index = 0; index < want.length; index++) {
        for (int what = 0; what < 4; what++) {
          t.due("part " + way + " " + index + " " + what, x.part(way, index, what), want[index][what]);
        }
      }
      t.due("no part", x.part(way, 6, 0), Due.NONE);
      t.due("most index", x.part(way, Due.MOST, 3), Due.NONE);
      t.due("index -1", x.part(way, -1, 0), Due.INVALID);
      t.due("least index", x.part(way, Due.LEAST, 0), Due.INVALID);
    }
    for (int wrong : new int[] {-1, 3, 4, Due.LEAST, Due.MOST}) {
      t.due("part's way " + wrong, x.part(wrong, 0, 0), Due.INVALID);
      t.due("part's way " + wrong + " of none", x.part(wrong, 60, 0), Due.INVALID);
    }
    for (int wrong : new int[] {-1, 4, Due.LEAST, Due.MOST}) {
      t.due("part's " + wrong, x.part(0, 0, wrong), Due.INVALID);
      t.due("part's " + wrong + " of none", x.part(0, 60, wrong), Due.INVALID);
    }
    x.set(3, 20);
    x.set(4, 1);
    t.due("cost of a letter", x.part(0, 0, 3), 20);
    t.due("cost of a copy", x.part(0, 3, 3), 1);
  }

  private static void total() {
    WindowCopies x = Due.row("abcabcdabcd");
    int[] want = {6, 2, 68, 20, 7, 4};
    for (int way = 0; way <= 2; way++) {
      for (int what = 0; what < 6; what++) {
        t.due("total " + way + " " + what, x.total(way, what), want[what]);
      }
    }
    x.set(4, 60);
    t.due("copies cost more", x.total(0, 2), 152);
    t.due("saves below 0", x.total(0, 3), -64);
    t.due("letters alone", x.total(1, 2), 88);
    t.due("saves nothing", x.total(1, 3), 0);
    t.due("longest of no copies", x.total(1, 5), 0);
    t.due("letters of no copies", x.total(2, 4), 0);
    for (int wrong : new int[] {-1, 3, Due.LEAST, Due.MOST}) {
      t.due("total's way " + wrong, x.total(wrong, 0), Due.INVALID);
    }
    for (int wrong : new int[] {-1, 6, Due.LEAST, Due.MOST}) {
      t.due("total's " + wrong, x.total(0, wrong), Due.INVALID);
    }
    WindowCopies longCopies = Due.row("a".repeat(60));
    t.due("longest copy", longCopies.total(0, 5), 20);
    t.due("letters by copies", longCopies.total(0, 4), 59);
    WindowCopies firstIsLongest = Due.row("abcdabcdeabc");
    t.due("the first copy is the longest", firstIsLongest.total(0, 5), 4);
    t.due("of two", firstIsLongest.total(0, 1), 2);
  }

  private static void partAt() {
    WindowCopies x = Due.row("abcabcdabcd");
    int[] want = {0, 1, 2, 3, 3, 3, 4, 5, 5, 5, 5};
    for (int way = 0; way <= 2; way++) {
      for (int place = 0; place < want.length; place++) {
        t.due("partAt " + way + " " + place, x.partAt(way, place), want[place]);
      }
      for (int wrong : new int[] {-1, 11, Due.LEAST, Due.MOST}) {
        t.due("partAt " + wrong, x.partAt(way, wrong), Due.INVALID);
      }
    }
    for (int wrong : new int[] {-1, 3, Due.LEAST, Due.MOST}) {
      t.due("partAt's way " + wrong, x.partAt(wrong, 0), Due.INVALID);
    }
    WindowCopies y = Due.row("abcgbcdehabcde");
    t.due("way 0", y.partAt(0, 13), 11);
    t.due("way 1", y.partAt(1, 13), 10);
  }

  private static void parting() {
    WindowCopies x = Due.row("abcgbcdehabcde");
    t.due("0 and 1", x.parting(0, 1), 9);
    t.due("1 and 0", x.parting(1, 0), 9);
    t.due("0 and 2", x.parting(0, 2), 9);
    t.due("1 and 2", x.parting(1, 2), Due.NONE);
    for (int way = 0; way <= 2; way++) {
      t.due("one way", x.parting(way, way), Due.NONE);
    }
    for (int wrong : new int[] {-1, 3, Due.LEAST, Due.MOST}) {
      t.due("parting's one " + wrong, x.parting(wrong, 0), Due.INVALID);
      t.due("parting's other " + wrong, x.parting(0, wrong), Due.INVALID);
      t.due("parting of " + wrong, x.parting(wrong, wrong), Due.INVALID);
    }
    // Copies with one distance and two lengths.
    WindowCopies y = Due.row("abcdgdefhabcdef");
    y.set(3, 10);
    t.due("lengths", y.parting(0, 2), 9);
    t.due("lengths, way 1", y.parting(2, 1), 9);
  }

  private static void repeat() {
    WindowCopies x = Due.row("abcabcdabcd");
    t.due("length", x.repeat(0), 4);
    t.due("former", x.repeat(1), 3);
    t.due("latter", x.repeat(2), 7);
    dueRepeat("aaaa", 3, 0, 1);
    dueRepeat("abgabhab", 2, 0, 3);
    dueRepeat("abcdcdab", 2, 2, 4);
    dueRepeat("abgabhabc", 2, 0, 3);
    dueRepeat("acbdacebdh", 2, 0, 4);
    dueRepeat("abcga", 1, 0, 4);
    dueRepeat("abab", 2, 0, 2);
    dueRepeat("ababa", 3, 0, 2);
    dueRepeat("a".repeat(60), 59, 0, 1);
    dueRepeat("abcdefgh".repeat(7), 48, 0, 8);
    for (int what = 0; what < 3; what++) {
      t.due("nothing twice", Due.row("abcdefgh").repeat(what), Due.NONE);
      t.due("one letter", Due.row("a").repeat(what), Due.NONE);
    }
    for (int wrong : new int[] {-1, 3, Due.LEAST, Due.MOST}) {
      t.due("repeat's " + wrong, x.repeat(wrong), Due.INVALID);
      t.due("repeat's " + wrong + " of none", Due.row("a").repeat(wrong), Due.INVALID);
    }
    x.set(0, 1);
    t.due("the window does not matter", x.repeat(0), 4);
    x.mend(10, 7);
    t.due("after a mend", x.repeat(0), 3);
    t.due("former after a mend", x.repeat(1), 0);
  }

  private static void dueRepeat(String letters, int length, int former, int latter) {
    WindowCopies x = Due.row(letters);
    t.due("length in " + letters, x.repeat(0), length);
    t.due("former in " + letters, x.repeat(1), former);
    t.due("latter in " + letters, x.repeat(2), latter);
  }

  private static void count() {
    WindowCopies x = Due.row("abah");
    t.due("letters", x.count(0), 4);
    t.due("unlike letters", x.count(1), 3);
    t.due("states", x.count(3), 4);
    t.due("text", x.count(4), 0);
    t.due("no snapshot", x.count(5), 0);
    x.drop(1);
    t.due("unlike letters that are left", x.count(1), 2);
    t.due("states at most 4", x.count(3), 4);
    x.keep();
    t.due("snapshot", x.count(5), 1);
    x.type('x');
    t.due("text of 1", x.count(4), 1);
    t.due("a letter at the first place alone", Due.row("abb").count(1), 2);
    t.due("all letters", Due.row("hgfedcbaabcdefgh").count(1), 8);
    for (int what = 0; what < 5; what++) {
      x.set(what, what + 2);
      t.due("setting " + what, x.count(10 + what), what + 2);
    }
    for (int wrong : new int[] {-1, 6, 7, 8, 9, 15, Due.LEAST, Due.MOST}) {
      t.due("count " + wrong, x.count(wrong), Due.INVALID);
    }
  }

  private static void cheapestWay() {
    t.due("all alike", Due.row("abcabc").count(2), 0);
    t.due("way 1 and 2 alike", Due.row("abcgbcdehabcde").count(2), 1);
    WindowCopies x = Due.row("abcdgdefhabcdef");
    t.due("way 0 and 1 as cheap", x.count(2), 0);
    x.set(3, 10);
    t.due("way 2 alone", x.count(2), 2);
  }
}
