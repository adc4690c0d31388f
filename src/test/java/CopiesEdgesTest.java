// Boundary cases of promises 7 to 9, a test for each sentence that names one: candidate, found, isCopy.
public final class CopiesEdgesTest {
  private static final Due t = new Due("CopiesEdgesTest");

  public static void main(String[] args) {
    distanceFrom1();
    distanceUpToTheWindow();
    distanceAtMostThePlace();
    lengthFromTheLeast();
    lengthUpTo20();
    lengthUpToTheEnd();
    eachLetterIsTheSame();
    mayReachIntoItself();
    isCopyWrapsNoNumbers();
    isCopyAtNoPlace();
    candidatesFromTheLeastDistance();
    candidatesInTheWindow();
    candidatesBeginWithTwoLetters();
    candidatesLookedAt();
    candidatesNoneAtTheEnds();
    reachFrom2To20();
    candidateOutOfRange();
    foundGreatestReach();
    foundOfSeveralTheNearest();
    foundOfReachesCutAt20();
    foundAtTheLeastLength();
    foundOfThoseLookedAt();
    savesAround0();
    foundCountsAll();
    foundOutOfRange();
    t.end();
  }

  private static void dueFound(WindowCopies x, int place, int distance, int length) {
    t.due("distance found at " + place, x.found(place, 0), distance);
    t.due("length found at " + place, x.found(place, 1), length);
  }

  private static void dueNoneFound(WindowCopies x, int place, int candidates) {
    for (int what = 0; what <= 2; what++) {
      t.due("found " + what + " at " + place, x.found(place, what), Due.NONE);
    }
    t.due("candidates at " + place, x.found(place, 3), candidates);
  }

  private static void dueCandidates(WindowCopies x, int place, int... distances) {
    for (int index = 0; index < distances.length; index++) {
      t.due("candidate " + index + " at " + place, x.candidate(place, index, 0), distances[index]);
    }
    t.due("no more candidates at " + place, x.candidate(place, distances.length, 0), Due.NONE);
    t.due("no more reaches at " + place, x.candidate(place, distances.length, 1), Due.NONE);
  }

  // "a distance d, from 1": a letter is always the same as itself.
  private static void distanceFrom1() {
    WindowCopies x = Due.row("aaaaaa");
    t.due("distance 1", x.isCopy(2, 1, 3), 1);
    t.due("distance 0", x.isCopy(2, 0, 3), 0);
    t.due("distance -1", x.isCopy(2, -1, 3), 0);
    t.due("no candidate with distance 0", Due.row("abc").found(1, 3), 0);
  }

  // "to setting 0"
  private static void distanceUpToTheWindow() {
    String letters = "ab" + "h".repeat(56) + "ab";
    WindowCopies x = Due.row(letters);
    x.set(1, 2);
    for (int window = 57; window <= 60; window++) {
      x.set(0, window);
      t.due("distance 58, window " + window, x.isCopy(58, 58, 2), window < 58 ? 0 : 1);
      t.due("candidates", x.found(58, 3), window < 58 ? 0 : 1);
    }
    WindowCopies first = Due.row("a".repeat(30));
    t.due("distance 20 with the first window", first.isCopy(25, 20, 3), 1);
    t.due("distance 21 with the first window", first.isCopy(25, 21, 3), 0);
    first.set(0, 1);
    t.due("distance 1 with the least window", first.isCopy(25, 1, 3), 1);
    t.due("distance 2 with the least window", first.isCopy(25, 2, 3), 0);
  }

  // "at most p"
  private static void distanceAtMostThePlace() {
    WindowCopies x = Due.row("a".repeat(10));
    for (int place = 0; place <= 7; place++) {
      t.due("as far as place " + place, x.isCopy(place, place, 3), place == 0 ? 0 : 1);
      t.due("further than place " + place, x.isCopy(place, place + 1, 3), 0);
      t.due("candidates at " + place, x.found(place, 3), place);
    }
  }

  // "a length l, from setting 1"
  private static void lengthFromTheLeast() {
    WindowCopies x = Due.row("a".repeat(10));
    for (int least = 2; least <= 6; least++) {
      x.set(1, least);
      t.due("just the least length " + least, x.isCopy(1, 1, least), 1);
      t.due("below the least length " + least, x.isCopy(1, 1, least - 1), 0);
    }
    t.due("length 0", x.isCopy(1, 1, 0), 0);
    t.due("length -1", x.isCopy(1, 1, -1), 0);
  }

  // "to 20"
  private static void lengthUpTo20() {
    WindowCopies x = Due.row("a".repeat(60));
    t.due("length 20", x.isCopy(1, 1, 20), 1);
    t.due("length 21", x.isCopy(1, 1, 21), 0);
    t.due("length 59", x.isCopy(1, 1, 59), 0);
  }

  // "at most as many letters as there are from p on"
  private static void lengthUpToTheEnd() {
    WindowCopies x = Due.row("a".repeat(12));
    for (int place = 1; place <= 9; place++) {
      t.due("up to the end from " + place, x.isCopy(place, 1, 12 - place), 1);
      t.due("behind the end from " + place, x.isCopy(place, 1, 13 - place), 0);
    }
    x.set(1, 2);
    t.due("two letters are left", x.isCopy(10, 1, 2), 1);
    t.due("one letter is left", x.isCopy(11, 1, 2), 0);
    x.put(0);
    t.due("another letter", x.isCopy(11, 1, 2), 1);
  }

  // "each letter of the places p to p + l - 1 is the same as that d places ahead of it"
  private static void eachLetterIsTheSame() {
    t.due("all", Due.row("abcdabcd").isCopy(4, 4, 4), 1);
    t.due("not the first", Due.row("abcdhbcd").isCopy(4, 4, 4), 0);
    t.due("not the second", Due.row("abcdahcd").isCopy(4, 4, 4), 0);
    t.due("not the third", Due.row("abcdabhd").isCopy(4, 4, 4), 0);
    t.due("not the last", Due.row("abcdabch").isCopy(4, 4, 4), 0);
    t.due("not the one behind it", Due.row("abcdhabcda").isCopy(5, 5, 4), 1);
    t.due("not the one ahead of it", Due.row("habcdgabcd").isCopy(6, 5, 4), 1);
  }

  // "(the copy may reach into itself)"
  private static void mayReachIntoItself() {
    WindowCopies x = Due.row("ab".repeat(5));
    t.due("longer than its distance", x.isCopy(2, 2, 8), 1);
    t.due("as long as its distance", x.isCopy(4, 4, 4), 1);
    t.due("one longer", x.isCopy(4, 4, 5), 1);
    t.due("its reach", x.candidate(2, 0, 1), 8);
    dueFound(x, 2, 2, 8);
  }

  // isCopy: "distance: any number; length: any number"
  private static void isCopyWrapsNoNumbers() {
    WindowCopies x = Due.row("a".repeat(60));
    int[] odd = {Due.LEAST, Due.LEAST + 1, Due.LEAST + 30, -60, -30, -1, 0, 61, Due.MOST - 30, Due.MOST};
    for (int number : odd) {
      t.due("distance " + number, x.isCopy(30, number, 3), 0);
      t.due("length " + number, x.isCopy(30, 1, number), 0);
      t.due("both " + number, x.isCopy(30, number, number), 0);
    }
    t.due("least and most", x.isCopy(30, Due.LEAST, Due.MOST), 0);
    t.due("most and least", x.isCopy(30, Due.MOST, Due.LEAST), 0);
  }

  // isCopy: "INVALID_ARGUMENT if there is no such place"
  private static void isCopyAtNoPlace() {
    t.due("of an empty row", new WindowCopies().isCopy(0, 1, 3), Due.INVALID);
    WindowCopies x = Due.row("aaaaa");
    for (int wrong : new int[] {-1, 5, 59, 60, Due.LEAST, Due.MOST}) {
      t.due("isCopy at " + wrong, x.isCopy(wrong, 1, 3), Due.INVALID);
      t.due("isCopy at " + wrong + " with odd numbers", x.isCopy(wrong, Due.LEAST, Due.MOST), Due.INVALID);
    }
    t.due("at the first place", x.isCopy(0, 1, 3), 0);
    t.due("at the last place", x.isCopy(4, 1, 3), 0);
  }

  // "The candidates at a place p are the distances, from the least one on"
  private static void candidatesFromTheLeastDistance() {
    WindowCopies x = Due.row("abgabcabhab");
    dueCandidates(x, 9, 3, 6, 9);
    dueCandidates(Due.row("aaaaaa"), 4, 1, 2, 3, 4);
  }

  // "(at most setting 0 and p)"
  private static void candidatesInTheWindow() {
    WindowCopies x = Due.row("abgabcabhab");
    x.set(0, 9);
    dueCandidates(x, 9, 3, 6, 9);
    x.set(0, 8);
    dueCandidates(x, 9, 3, 6);
    x.set(0, 3);
    dueCandidates(x, 9, 3);
    x.set(0, 2);
    dueCandidates(x, 9);
    x.set(0, 60);
    dueCandidates(x, 9, 3, 6, 9);
    dueCandidates(x, 3, 3);
  }

  // "the letters of the places p and p + 1 are the same as those of p - d and p - d + 1"
  private static void candidatesBeginWithTwoLetters() {
    dueCandidates(Due.row("abgab"), 3, 3);
    dueCandidates(Due.row("abgah"), 3);
    dueCandidates(Due.row("abghb"), 3);
    dueCandidates(Due.row("aab"), 1);
    dueCandidates(Due.row("aaa"), 1, 1);
  }

  // "the first of them, as many as setting 2, are looked at"
  private static void candidatesLookedAt() {
    WindowCopies x = Due.row("abgabcabhab");
    x.set(2, 1);
    dueCandidates(x, 9, 3);
    x.set(2, 2);
    dueCandidates(x, 9, 3, 6);
    x.set(2, 3);
    dueCandidates(x, 9, 3, 6, 9);
    x.set(2, 60);
    dueCandidates(x, 9, 3, 6, 9);
    WindowCopies most = Due.row("a".repeat(60));
    most.set(0, 60);
    most.set(2, 58);
    t.due("58 of 58", most.candidate(58, 57, 0), 58);
    most.set(2, 57);
    t.due("57 of 58", most.candidate(58, 56, 0), 57);
    t.due("no 58th of them", most.candidate(58, 57, 0), Due.NONE);
    t.due("58 all the same", most.found(58, 3), 58);
  }

  // "(At the last place there are none.)", and at the first one there is nothing ahead.
  private static void candidatesNoneAtTheEnds() {
    for (int size = 1; size <= 60; size++) {
      WindowCopies x = Due.row("a".repeat(size));
      dueCandidates(x, size - 1);
      dueNoneFound(x, size - 1, 0);
      dueNoneFound(x, 0, 0);
    }
  }

  // "the greatest length l up to 20 for which all letters are the same so"
  private static void reachFrom2To20() {
    for (int like = 2; like <= 26; like++) {
      WindowCopies x = Due.row("a".repeat(like + 1) + "b");
      t.due("reach of " + like, x.candidate(1, 0, 1), Math.min(like, 20));
      x.drop(1);
      t.due("reach of " + like + " up to the end", x.candidate(1, 0, 1), Math.min(like, 20));
    }
    WindowCopies x = Due.row("abgab");
    x.set(1, 6);
    t.due("below the least length", x.candidate(3, 0, 1), 2);
  }

  // candidate: "INVALID_ARGUMENT if an argument is out of range or index is negative"
  private static void candidateOutOfRange() {
    t.due("of an empty row", new WindowCopies().candidate(0, 0, 0), Due.INVALID);
    WindowCopies x = Due.row("aaaa");
    for (int wrong : new int[] {-1, 4, 60, Due.LEAST, Due.MOST}) {
      t.due("at " + wrong, x.candidate(wrong, 0, 0), Due.INVALID);
      t.due("none at " + wrong, x.candidate(wrong, Due.MOST, 1), Due.INVALID);
    }
    for (int wrong : new int[] {-1, -60, Due.LEAST}) {
      t.due("index " + wrong, x.candidate(1, wrong, 0), Due.INVALID);
      t.due("index " + wrong + " where none is", x.candidate(3, wrong, 1), Due.INVALID);
    }
    for (int wrong : new int[] {-1, 2, Due.LEAST, Due.MOST}) {
      t.due("candidate's " + wrong, x.candidate(1, 0, wrong), Due.INVALID);
      t.due("candidate's " + wrong + " where none is", x.candidate(3, 0, wrong), Due.INVALID);
    }
    for (int index : new int[] {1, 59, 60, 61, Due.MOST}) {
      t.due("index " + index, x.candidate(1, index, 0), Due.NONE);
    }
  }

  // "The copy found at a place is that with the greatest reach"
  private static void foundGreatestReach() {
    dueFound(Due.row("abcdgabcfabcd"), 9, 9, 4);
    dueFound(Due.row("abcfabcdgabcd"), 9, 5, 4);
    dueFound(Due.row("abcdgabcdfabc"), 10, 5, 3);
  }

  // "of several the least distance"
  private static void foundOfSeveralTheNearest() {
    dueFound(Due.row("abcgabchabc"), 8, 4, 3);
    dueFound(Due.row("a".repeat(9)), 5, 1, 4);
  }

  // The far candidate goes on behind 20 letters and the near one does not: both have reach 20.
  private static void foundOfReachesCutAt20() {
    String run = "a".repeat(20) + "bc";
    WindowCopies x = Due.row(run + "da" + run);
    x.set(0, 60);
    x.set(2, 60);
    t.due("the far one's reach", x.candidate(24, x.found(24, 3) - 1, 1), 20);
    t.due("the far one's distance", x.candidate(24, x.found(24, 3) - 1, 0), 24);
    dueFound(x, 24, 1, 20);
    dueFound(x, 23, 23, 20);
    dueFound(x, 25, 24, 20);
  }

  // "if this is below setting 1, none is found"
  private static void foundAtTheLeastLength() {
    for (int least = 2; least <= 6; least++) {
      WindowCopies x = Due.row("a".repeat(least + 1));
      x.set(1, least);
      dueFound(x, 1, 1, least);
      if (least > 2) {
        dueNoneFound(x, 2, 2);
      }
      x.drop(1);
      dueNoneFound(x, 1, least == 2 ? 0 : 1);
    }
  }

  // "of the candidates that are looked at"
  private static void foundOfThoseLookedAt() {
    WindowCopies x = Due.row("abcdgabcfabhabcd");
    x.set(2, 1);
    dueNoneFound(x, 12, 3);
    x.set(2, 2);
    dueFound(x, 12, 7, 3);
    x.set(2, 3);
    dueFound(x, 12, 12, 4);
  }

  // "What a copy saves is its length times setting 3, less setting 4."
  private static void savesAround0() {
    WindowCopies x = Due.row("abcabc");
    x.set(3, 6);
    int[] costs = {1, 17, 18, 19, 60};
    for (int cost : costs) {
      x.set(4, cost);
      t.due("saves with cost " + cost, x.found(3, 2), 18 - cost);
    }
    WindowCopies longest = Due.row("a".repeat(21));
    longest.set(3, 20);
    longest.set(4, 1);
    t.due("the most", longest.found(1, 2), 399);
    WindowCopies shortest = Due.row("aaa");
    shortest.set(1, 2);
    shortest.set(3, 1);
    shortest.set(4, 60);
    t.due("the least", shortest.found(1, 2), -58);
  }

  // found: "3: how many candidates there are, looked at or not"
  private static void foundCountsAll() {
    WindowCopies x = Due.row("a".repeat(60));
    x.set(2, 1);
    x.set(1, 6);
    t.due("in the first window", x.found(58, 3), 20);
    x.set(0, 60);
    t.due("in the greatest window", x.found(58, 3), 58);
    t.due("though none is found", x.found(58, 0), Due.NONE);
    x.set(0, 1);
    t.due("in the least window", x.found(58, 3), 1);
    t.due("none at the first place", x.found(0, 3), 0);
    t.due("none at the last place", x.found(59, 3), 0);
  }

  // found: "INVALID_ARGUMENT if an argument is out of range; NOT_FOUND for 0 to 2 if none is found"
  private static void foundOutOfRange() {
    WindowCopies empty = new WindowCopies();
    WindowCopies x = Due.row("aaaa");
    for (int what = -1; what <= 4; what++) {
      t.due("of an empty row " + what, empty.found(0, what), Due.INVALID);
      for (int wrong : new int[] {-1, 4, 60, Due.LEAST, Due.MOST}) {
        t.due("at " + wrong, x.found(wrong, what), Due.INVALID);
      }
    }
    for (int wrong : new int[] {-1, 4, Due.LEAST, Due.MOST}) {
      t.due("found's " + wrong, x.found(1, wrong), Due.INVALID);
      t.due("found's " + wrong + " where none is", x.found(0, wrong), Due.INVALID);
    }
    dueNoneFound(x, 0, 0);
  }
}
