// Boundary cases of promises 10 to 15, a test for each sentence that names one: the three ways, part,
// total, partAt, parting, repeat, count.
public final class PartsEdgesTest {
  private static final Due t = new Due("PartsEdgesTest");

  public static void main(String[] args) {
    emptyRow();
    oneLetter();
    fullRowOfLetters();
    fullRowOfCopies();
    foundThoughItCostsMore();
    weighedSavesMoreThan0();
    weighedAgainstTheNextPlace();
    weighedAgainstTheOneBehind();
    weighedAgainstNoThirdPlace();
    weighedAtTheEndOfTheRow();
    weighedAgainstWhatIsNoMore();
    weighedAgainstWhatIsNotTaken();
    cheapestFromTheLeastLength();
    cheapestUpToTheReach();
    cheapestOfThoseLookedAt();
    cheapestALetterRather();
    cheapestTheLessDistance();
    cheapestTheGreaterLength();
    costsLowestAndHighest();
    partOutOfRange();
    totalsBelow0();
    totalOfTheLongestCopy();
    totalOutOfRange();
    partAtFirstAndLastOfAPart();
    partAtOutOfRange();
    partingFirstPlace();
    partingNone();
    partingOutOfRange();
    repeatOfLeastAndMost();
    repeatIntoItself();
    repeatOfSeveral();
    repeatNone();
    repeatOutOfRange();
    countUnlikeLetters();
    countCheapestWay();
    countStatesTextSnapshot();
    countOutOfRange();
    t.end();
  }

  private static void dueAllWays(WindowCopies x, String want) {
    for (int way = 0; way <= 2; way++) {
      t.dueParts(x, way, want);
    }
  }

  private static void emptyRow() {
    WindowCopies x = new WindowCopies();
    for (int way = 0; way <= 2; way++) {
      for (int what = 0; what <= 3; what++) {
        t.due("part 0", x.part(way, 0, what), Due.NONE);
        t.due("part most", x.part(way, Due.MOST, what), Due.NONE);
      }
      for (int what = 0; what <= 5; what++) {
        t.due("total " + what, x.total(way, what), 0);
      }
      t.due("partAt 0", x.partAt(way, 0), Due.INVALID);
      t.due("parting", x.parting(way, 2 - way), Due.NONE);
    }
    x.put(0);
    x.drop(1);
    t.due("parts after a drop", x.total(0, 0), 0);
    t.due("part 0 after a drop", x.part(0, 0, 0), Due.NONE);
  }

  private static void oneLetter() {
    WindowCopies x = Due.row("h");
    dueAllWays(x, "h");
    for (int way = 0; way <= 2; way++) {
      t.due("its cost", x.part(way, 0, 3), 8);
      t.due("no second part", x.part(way, 1, 0), Due.NONE);
      t.due("partAt 0", x.partAt(way, 0), 0);
    }
  }

  private static void fullRowOfLetters() {
    WindowCopies x = Due.row("ab".repeat(30));
    x.set(0, 1);
    for (int way = 0; way <= 2; way++) {
      t.due("parts", x.total(way, 0), 60);
      t.due("copies", x.total(way, 1), 0);
      t.due("the last part begins", x.part(way, 59, 0), 59);
      t.due("the last part's letters", x.part(way, 59, 1), 1);
      t.due("the last part's distance", x.part(way, 59, 2), 0);
      t.due("no part behind it", x.part(way, 60, 0), Due.NONE);
      t.due("partAt 59", x.partAt(way, 59), 59);
      t.due("partAt 60", x.partAt(way, 60), Due.INVALID);
    }
  }

  private static void fullRowOfCopies() {
    WindowCopies x = Due.row("a".repeat(60));
    dueAllWays(x, "a(1,20)(1,20)(1,19)");
    for (int way = 0; way <= 2; way++) {
      t.due("the last part ends the row", x.part(way, 3, 0) + x.part(way, 3, 1), 60);
      t.due("no part behind it", x.part(way, 4, 0), Due.NONE);
      t.due("partAt 59", x.partAt(way, 59), 3);
    }
  }

  // "0: at each place the copy that is found, if there is one"
  private static void foundThoughItCostsMore() {
    WindowCopies x = Due.row("abcabc");
    x.set(3, 1);
    x.set(4, 60);
    t.dueParts(x, 0, "abc(3,3)");
    t.dueParts(x, 1, "abcabc");
    t.dueParts(x, 2, "abcabc");
    x.set(1, 4);
    t.dueParts(x, 0, "abcabc");
  }

  // "if a copy is found there that saves more than 0"
  private static void weighedSavesMoreThan0() {
    WindowCopies x = Due.row("abcabc");
    x.set(3, 6);
    x.set(4, 19);
    t.dueParts(x, 1, "abcabc");
    x.set(4, 18);
    t.dueParts(x, 1, "abcabc");
    x.set(4, 17);
    t.dueParts(x, 1, "abc(3,3)");
  }

  // "neither the copy found at the next place ... saves more than it"
  private static void weighedAgainstTheNextPlace() {
    t.dueParts(Due.row("abcdhabcd"), 1, "abcdh(5,4)");
    t.dueParts(Due.row("abcgbcdhabcd"), 1, "abcgbcdh(8,3)d");
    WindowCopies more = Due.row("abcgbcdehabcde");
    t.dueParts(more, 1, "abcgbcdeha(6,4)");
    more.set(3, 1);
    more.set(4, 1);
    t.due("saves here", more.found(9, 2), 2);
    t.due("saves at the next place", more.found(10, 2), 3);
    t.dueParts(more, 1, "abcgbcdeha(6,4)");
  }

  // "nor that found at the one behind that"
  private static void weighedAgainstTheOneBehind() {
    t.dueParts(Due.row("abcdeghabcde"), 1, "abcdegh(7,5)");
    t.dueParts(Due.row("abchcdehabcde"), 1, "abchcdeh(8,3)de");
    WindowCopies more = Due.row("abchcdefhabcdef");
    t.dueParts(more, 0, "abchcdefh(9,3)(7,3)");
    t.dueParts(more, 1, "abchcdefhab(7,4)");
    more.set(3, 1);
    more.set(4, 1);
    t.due("saves here", more.found(9, 2), 2);
    t.due("none at the next place", more.found(10, 2), Due.NONE);
    t.due("saves at the one behind", more.found(11, 2), 3);
    t.dueParts(more, 1, "abchcdefhab(7,4)");
  }

  private static void weighedAgainstNoThirdPlace() {
    WindowCopies x = Due.row("abcdhdefgbhabcdefgb");
    t.due("saves here", x.found(11, 2), 14);
    t.due("saves three places later", x.found(14, 2), 22);
    t.dueParts(x, 1, "abcdhdefgbh(11,4)(9,4)");
  }

  // "(if there are these places, and copies)"
  private static void weighedAtTheEndOfTheRow() {
    WindowCopies x = Due.row("abgab");
    x.set(1, 2);
    x.set(3, 10);
    t.dueParts(x, 1, "abg(3,2)");
    t.dueParts(Due.row("abcgabc"), 1, "abcg(4,3)");
    WindowCopies full = Due.row("ab" + "h".repeat(56) + "ab");
    full.set(0, 60);
    full.set(1, 2);
    full.set(3, 10);
    t.dueParts(full, 1, "abh(1,20)(1,20)(1,15)(58,2)");
    t.dueParts(full, 2, "abh(1,20)(1,20)(1,15)(58,2)");
  }

  // What stood behind the end before a drop is no place any more, and what a mend took away no copy.
  private static void weighedAgainstWhatIsNoMore() {
    WindowCopies dropped = Due.row("abhabhab");
    dropped.set(1, 2);
    dropped.set(3, 10);
    t.due("saves at the place that goes", dropped.found(5, 2), 12);
    t.dueParts(dropped, 1, "abh(3,5)");
    dropped.drop(3);
    t.due("saves here", dropped.found(3, 2), 2);
    t.dueParts(dropped, 1, "abh(3,2)");
    WindowCopies mended = Due.row("abchcdefhabcdef");
    t.dueParts(mended, 1, "abchcdefhab(7,4)");
    mended.mend(13, 7);
    t.dueParts(mended, 1, "abchcdefh(9,3)dhf");
    mended.undo();
    mended.drop(1);
    t.dueParts(mended, 1, "abchcdefh(9,3)de");
  }

  // The copy found at a later place counts, whether the way takes it or not.
  private static void weighedAgainstWhatIsNotTaken() {
    t.dueParts(Due.row("abchbcdegcdefbhabcdefb"), 1, "abchbcdeg(4,3)fbhab(8,5)");
    WindowCopies x = Due.row("abchbcdegdefabhabcdefab");
    t.due("saves here", x.found(15, 2), 6);
    t.due("saves at the next place", x.found(16, 2), 14);
    t.due("saves at the one behind", x.found(17, 2), 6);
    t.due("saves three places later", x.found(18, 2), 22);
    t.dueParts(x, 0, "abchbcdegdefabh(15,3)(9,5)");
    t.dueParts(x, 1, "abchbcdegdefabhabc(9,5)");
    t.dueParts(x, 2, "abchbcdegdefabh(15,3)(9,5)");
  }

  // "copies ... with all lengths from setting 1"
  private static void cheapestFromTheLeastLength() {
    WindowCopies x = Due.row("abgab");
    x.set(3, 20);
    x.set(4, 1);
    t.dueParts(x, 2, "abgab");
    x.set(1, 2);
    t.dueParts(x, 2, "abg(3,2)");
    WindowCopies parted = Due.row("abcdgdefhabcdef");
    parted.set(3, 10);
    t.dueParts(parted, 2, "abcdgdefh(9,3)(7,3)");
    parted.set(1, 4);
    t.dueParts(parted, 2, "abcdgdefh(9,4)ef");
    parted.set(1, 5);
    t.dueParts(parted, 2, "abcdgdefhabcdef");
    // A nearer candidate with a shorter reach does not let in the lengths between.
    WindowCopies near = Due.row("abcdgabhabcd");
    near.set(1, 4);
    t.dueParts(near, 2, "abcdgabh(8,4)");
    near.set(1, 5);
    t.due("the near one's reach", near.candidate(8, 0, 1), 2);
    t.due("the far one's reach", near.candidate(8, 1, 1), 4);
    t.dueParts(near, 2, "abcdgabhabcd");
  }

  // "to their reach"
  private static void cheapestUpToTheReach() {
    t.dueParts(Due.row("a".repeat(21)), 2, "a(1,20)");
    t.dueParts(Due.row("a".repeat(22)), 2, "aa(1,20)");
    WindowCopies x = Due.row("abcdhabcdg");
    x.set(3, 20);
    x.set(4, 1);
    t.dueParts(x, 2, "abcdh(5,4)g");
  }

  // "copies of all candidates that are looked at"
  private static void cheapestOfThoseLookedAt() {
    WindowCopies x = Due.row("abcdgabcfabhabcd");
    x.set(2, 1);
    t.dueParts(x, 2, "abcdg(5,3)fabhabcd");
    x.set(2, 2);
    t.dueParts(x, 2, "abcdg(5,3)fabha(12,3)");
    x.set(2, 3);
    t.dueParts(x, 2, "abcdg(5,3)fabh(12,4)");
    x.set(0, 11);
    t.dueParts(x, 2, "abcdg(5,3)fabh(7,3)d");
  }

  // "a letter rather than a copy"
  private static void cheapestALetterRather() {
    WindowCopies x = Due.row("abcabc");
    x.set(3, 6);
    x.set(4, 17);
    t.dueParts(x, 2, "abc(3,3)");
    x.set(4, 18);
    t.dueParts(x, 2, "abcabc");
    WindowCopies later = Due.row("abcdhbcdegabcde");
    t.due("a copy and a letter cost as much", later.total(0, 2), later.total(2, 2));
    t.dueParts(later, 0, "abcdh(4,3)eg(10,4)e");
    t.dueParts(later, 2, "abcdh(4,3)ega(6,4)");
  }

  // "then the less distance"
  private static void cheapestTheLessDistance() {
    t.dueParts(Due.row("abcgabchabc"), 2, "abcg(4,3)h(4,3)");
    WindowCopies x = Due.row("abcdhdefgabcfabcdefg");
    t.due("the far one is longer", x.found(13, 0), 13);
    t.dueParts(x, 0, "abcdhdefg(9,3)f(13,4)(11,3)");
    t.dueParts(x, 2, "abcdhdefg(9,3)f(4,3)(11,4)");
  }

  // "then the greater length"
  private static void cheapestTheGreaterLength() {
    t.dueParts(Due.row("a".repeat(26)), 2, "a(1,20)(1,5)");
    t.dueParts(Due.row("a".repeat(60)), 2, "a(1,20)(1,20)(1,19)");
  }

  // "a letter, which costs setting 3, or a copy, which costs setting 4"
  private static void costsLowestAndHighest() {
    WindowCopies x = Due.row("abcabc");
    x.set(3, 20);
    x.set(4, 1);
    t.due("letter at most", x.part(0, 2, 3), 20);
    t.due("copy at least", x.part(0, 3, 3), 1);
    t.due("all", x.total(0, 2), 61);
    t.due("less than letters alone", x.total(0, 3), 59);
    x.set(3, 1);
    x.set(4, 60);
    t.due("letter at least", x.part(0, 2, 3), 1);
    t.due("copy at most", x.part(0, 3, 3), 60);
    t.due("all", x.total(0, 2), 63);
    WindowCopies full = Due.row("ab".repeat(30));
    full.set(0, 1);
    full.set(3, 20);
    t.due("a full row of the dearest letters", full.total(2, 2), 1200);
  }

  // part: "INVALID_ARGUMENT if an argument is out of range or index is negative; NOT_FOUND if ..."
  private static void partOutOfRange() {
    WindowCopies x = Due.row("abcabc");
    for (int wrong : new int[] {-1, 3, Due.LEAST, Due.MOST}) {
      t.due("way " + wrong, x.part(wrong, 0, 0), Due.INVALID);
      t.due("way " + wrong + ", no part", x.part(wrong, 4, 0), Due.INVALID);
    }
    for (int wrong : new int[] {-1, 4, Due.LEAST, Due.MOST}) {
      t.due("what " + wrong, x.part(0, 0, wrong), Due.INVALID);
      t.due("what " + wrong + ", no part", x.part(0, 4, wrong), Due.INVALID);
    }
    for (int way = 0; way <= 2; way++) {
      t.due("index -1", x.part(way, -1, 0), Due.INVALID);
      t.due("least index", x.part(way, Due.LEAST, 3), Due.INVALID);
      t.due("the last", x.part(way, 3, 0), 3);
      for (int none : new int[] {4, 59, 60, 61, Due.MOST}) {
        t.due("index " + none, x.part(way, none, 0), Due.NONE);
      }
    }
  }

  // total: "by how much less that is than all letters alone (it can be below 0)"
  private static void totalsBelow0() {
    WindowCopies x = Due.row("abcabc");
    x.set(4, 23);
    t.due("above 0", x.total(0, 3), 1);
    x.set(4, 24);
    t.due("just 0", x.total(0, 3), 0);
    x.set(4, 25);
    t.due("below 0", x.total(0, 3), -1);
    t.due("not by way 1", x.total(1, 3), 0);
    t.due("not by way 2", x.total(2, 3), 0);
  }

  // total: "the length of the longest copy, 0 if there is none"
  private static void totalOfTheLongestCopy() {
    t.due("none", Due.row("abcdefgh").total(0, 5), 0);
    t.due("the first one", Due.row("abcdabcdeabc").total(0, 5), 4);
    t.due("the last one", Due.row("abcdabchabcd").total(0, 5), 4);
    WindowCopies most = Due.row("a".repeat(60));
    t.due("at most 20", most.total(0, 5), 20);
    t.due("letters told by copies", most.total(0, 4), 59);
    t.due("copies", most.total(0, 1), 3);
    WindowCopies noMore = Due.row("abcabc");
    t.due("one", noMore.total(0, 5), 3);
    noMore.mend(4, 7);
    t.due("none any more", noMore.total(0, 5), 0);
  }

  private static void totalOutOfRange() {
    for (WindowCopies x : new WindowCopies[] {new WindowCopies(), Due.row("abcabc")}) {
      for (int wrong : new int[] {-1, 3, Due.LEAST, Due.MOST}) {
        t.due("way " + wrong, x.total(wrong, 0), Due.INVALID);
        t.due("way " + wrong + " and 5", x.total(wrong, 5), Due.INVALID);
      }
      for (int wrong : new int[] {-1, 6, Due.LEAST, Due.MOST}) {
        t.due("what " + wrong, x.total(0, wrong), Due.INVALID);
        t.due("way 2's " + wrong, x.total(2, wrong), Due.INVALID);
      }
    }
  }

  private static void partAtFirstAndLastOfAPart() {
    WindowCopies x = Due.row("abcabcdabcd");
    int[] want = {0, 1, 2, 3, 3, 3, 4, 5, 5, 5, 5};
    for (int way = 0; way <= 2; way++) {
      for (int place = 0; place < want.length; place++) {
        t.due("part at " + place, x.partAt(way, place), want[place]);
      }
    }
  }

  private static void partAtOutOfRange() {
    WindowCopies x = Due.row("abcabc");
    for (int wrong : new int[] {-1, 6, 60, Due.LEAST, Due.MOST}) {
      for (int way = -1; way <= 3; way++) {
        t.due("place " + wrong, x.partAt(way, wrong), Due.INVALID);
      }
    }
    for (int wrong : new int[] {-1, 3, Due.LEAST, Due.MOST}) {
      t.due("way " + wrong, x.partAt(wrong, 0), Due.INVALID);
    }
    x.drop(1);
    t.due("a place that was", x.partAt(0, 5), Due.INVALID);
    t.due("the last place", x.partAt(0, 4), 4);
  }

  // "the first place at which two ways tell parts that are not the same"
  private static void partingFirstPlace() {
    WindowCopies first = Due.row("aaaaaaaa");
    first.set(4, 60);
    t.due("at the first place that can be", first.parting(0, 1), 1);
    WindowCopies last = Due.row("abcdefgab");
    last.set(1, 2);
    t.due("at the last one that can be", last.parting(0, 1), 7);
    t.due("the other way round", last.parting(1, 0), 7);
    t.due("ways 1 and 2 are one", last.parting(1, 2), Due.NONE);
    WindowCopies distance = Due.row("abcdhdefgabcfabcdefg");
    t.due("by distance and length", distance.parting(0, 2), 13);
    WindowCopies length = Due.row("abcdgdefhabcdef");
    length.set(3, 10);
    t.due("by length alone", length.parting(2, 0), 9);
    WindowCopies twice = Due.row("abcgbcdehabcde" + "fgdhgdeabfgdea");
    twice.set(0, 9);
    t.dueParts(twice, 0, "abcgbcdeh(9,3)defgdhgdeab(9,3)ea");
    t.dueParts(twice, 1, "abcgbcdeha(6,4)fgdhgdeabf(6,4)");
    t.due("the first of two", twice.parting(0, 1), 9);
  }

  // parting: "NOT_FOUND if there is none"
  private static void partingNone() {
    for (String letters : new String[] {"", "a", "abcabc", "abcgbcdehabcde", "a".repeat(60)}) {
      WindowCopies x = Due.row(letters);
      for (int way = 0; way <= 2; way++) {
        t.due("a way and itself in " + letters, x.parting(way, way), Due.NONE);
      }
      t.due("ways 1 and 2 in " + letters, x.parting(1, 2), Due.NONE);
    }
  }

  private static void partingOutOfRange() {
    for (WindowCopies x : new WindowCopies[] {new WindowCopies(), Due.row("abcgbcdehabcde")}) {
      for (int wrong : new int[] {-1, 3, Due.LEAST, Due.MOST}) {
        for (int way = 0; way <= 2; way++) {
          t.due("one " + wrong, x.parting(wrong, way), Due.INVALID);
          t.due("other " + wrong, x.parting(way, wrong), Due.INVALID);
        }
        t.due("both " + wrong, x.parting(wrong, wrong), Due.INVALID);
      }
    }
  }

  private static void dueRepeat(String letters, int length, int former, int latter) {
    WindowCopies x = Due.row(letters);
    t.due("length in " + letters, x.repeat(0), length);
    t.due("former in " + letters, x.repeat(1), former);
    t.due("latter in " + letters, x.repeat(2), latter);
  }

  private static void repeatOfLeastAndMost() {
    dueRepeat("aa", 1, 0, 1);
    dueRepeat("abcdefgha", 1, 0, 8);
    dueRepeat("h" + "abcdefg".repeat(2), 7, 1, 8);
    // No copy is so long, or so far away.
    dueRepeat("a".repeat(60), 59, 0, 1);
    dueRepeat("abb" + "h".repeat(54) + "abb", 53, 3, 4);
    dueRepeat("abcdefg".repeat(8) + "h" + "abc", 49, 0, 7);
    dueRepeat("abc".repeat(10) + "cab".repeat(10), 29, 0, 31);
  }

  // "(it may reach into itself)"
  private static void repeatIntoItself() {
    dueRepeat("aaa", 2, 0, 1);
    dueRepeat("ababa", 3, 0, 2);
    dueRepeat("abab", 2, 0, 2);
    dueRepeat("habababg", 4, 1, 3);
  }

  // "of several that whose latter place is the lowest"
  private static void repeatOfSeveral() {
    dueRepeat("abgabhab", 2, 0, 3);
    dueRepeat("abcdcdab", 2, 2, 4);
    dueRepeat("abcdabcd", 4, 0, 4);
    dueRepeat("acbdacebdh", 2, 0, 4);
    dueRepeat("abba", 1, 1, 2);
    dueRepeat("abcabdabca", 4, 0, 6);
  }

  // repeat: "NOT_FOUND if no letter stands twice"
  private static void repeatNone() {
    for (int size = 0; size <= 8; size++) {
      WindowCopies x = Due.row("abcdefgh".substring(0, size));
      for (int what = 0; what <= 2; what++) {
        t.due("repeat " + what + " of " + size, x.repeat(what), Due.NONE);
      }
    }
    WindowCopies x = Due.row("aba");
    x.drop(1);
    t.due("after a drop", x.repeat(0), Due.NONE);
    x.undo();
    t.due("after undo", x.repeat(0), 1);
    x.mend(2, 2);
    t.due("after a mend", x.repeat(0), Due.NONE);
  }

  private static void repeatOutOfRange() {
    for (WindowCopies x : new WindowCopies[] {new WindowCopies(), Due.row("a"), Due.row("aa")}) {
      for (int wrong : new int[] {-1, 3, Due.LEAST, Due.MOST}) {
        t.due("repeat " + wrong, x.repeat(wrong), Due.INVALID);
      }
    }
  }

  // count: "1: unlike letters"
  private static void countUnlikeLetters() {
    WindowCopies x = new WindowCopies();
    t.due("of none", x.count(1), 0);
    for (int letter = 7; letter >= 0; letter--) {
      x.put(letter);
      t.due("of unlike ones", x.count(1), 8 - letter);
    }
    x.put(3);
    t.due("of all and one twice", x.count(1), 8);
    x.drop(8);
    t.due("of one that is left", x.count(1), 1);
    t.due("of sixty like ones", Due.row("h".repeat(60)).count(1), 1);
    t.due("of a full row of all", Due.row("abcdefgh".repeat(7) + "abcd").count(1), 8);
  }

  // count: "2: the way that costs least, of several the lowest"
  private static void countCheapestWay() {
    t.due("of an empty row", new WindowCopies().count(2), 0);
    t.due("all cost the same", Due.row("abcabc").count(2), 0);
    dueCosts("aababaabaa", 60, 66, 60, 0);
    dueCosts("abbababba", 66, 58, 58, 1);
    dueCosts("abbabbbbbab", 76, 74, 68, 2);
    dueCosts("abaaaabaabaaa", 78, 82, 76, 2);
    dueCosts("baabaaabbaaaaaabaa", 110, 110, 102, 2);
    WindowCopies x = Due.row("abcabc");
    x.set(4, 25);
    t.due("letters alone cost less", x.count(2), 1);
  }

  private static void dueCosts(String letters, int found, int weighed, int cheapest, int way) {
    WindowCopies x = Due.row(letters);
    t.due("way 0 of " + letters, x.total(0, 2), found);
    t.due("way 1 of " + letters, x.total(1, 2), weighed);
    t.due("way 2 of " + letters, x.total(2, 2), cheapest);
    t.due("cheapest way of " + letters, x.count(2), way);
  }

  private static void countStatesTextSnapshot() {
    WindowCopies x = new WindowCopies();
    for (int size = 1; size <= 60; size++) {
      x.put(0);
      t.due("letters", x.count(0), size);
      t.due("states", x.count(3), Math.min(size, 4));
    }
    for (int length = 1; length <= 120; length++) {
      x.type('a');
      t.due("text", x.count(4), length);
    }
    t.due("no snapshot", x.count(5), 0);
    x.keep();
    t.due("a snapshot", x.count(5), 1);
    x.keep();
    t.due("still one", x.count(5), 1);
  }

  private static void countOutOfRange() {
    WindowCopies x = new WindowCopies();
    for (int wrong : new int[] {-1, 6, 7, 8, 9, 15, 16, 60, Due.LEAST, Due.LEAST + 10, Due.MOST}) {
      t.due("count " + wrong, x.count(wrong), Due.INVALID);
    }
    t.due("count 5", x.count(5), 0);
    t.due("count 10", x.count(10), 20);
    t.due("count 14", x.count(14), 18);
  }
}
