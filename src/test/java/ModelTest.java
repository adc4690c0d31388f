import java.util.ArrayList;
import java.util.List;
import java.util.Random;

// Promises 1 to 23: long runs of calls, the same ones each time, whose answers are those of the Model.
public final class ModelTest {
  private static final int RUNS = 400;
  // One object serves 512 calls; the last step may make up to eight.
  private static final int CALLS = 504;
  private static final int[] ODD = {Integer.MIN_VALUE, -10001, -1, 7, 8, 21, 60, 61, 120, 127, Integer.MAX_VALUE};

  private static int asked = 0;
  private static int wrong = 0;

  private final Random random;
  private final WindowCopies x = new WindowCopies();
  private final Model model = new Model();
  private final List<String> calls = new ArrayList<>();
  private final int letters;
  private final String run;
  private boolean asDue = true;

  private ModelTest(int seed) {
    random = new Random(seed);
    letters = 1 + seed % 8;
    run = "run " + seed;
  }

  public static void main(String[] args) {
    for (int seed = 0; seed < RUNS; seed++) {
      new ModelTest(seed).runAll();
    }
    everyShortRow();
    System.out.println("ModelTest: " + asked + " answers, " + wrong + " not as due");
    if (wrong != 0) {
      System.exit(1);
    }
  }

  // So that the model's cheapest rows of parts are right, too.
  private static void everyShortRow() {
    for (int row = 0; row < 1 << 9; row++) {
      Model model = new Model();
      model.set(1, 2);
      model.set(3, 9);
      model.set(4, 9 * (1 + row % 2));
      for (int place = 0; place < 9; place++) {
        model.put(row >> place & 1);
      }
      asked++;
      if (!model.isCheapestOfAll()) {
        wrong++;
        System.out.println("the model's cheapest parts of row " + row + " are not the cheapest");
      }
    }
  }

  private void runAll() {
    if (random.nextInt(3) == 0) {
      putRowOfLongCopies();
    }
    while (calls.size() < CALLS && asDue) {
      int kind = random.nextInt(100);
      if (kind < 45) {
        change();
      } else if (kind < 60) {
        text();
      } else {
        ask();
      }
    }
  }

  private void due(String call, int got, int want) {
    asked++;
    calls.add(call + " = " + got);
    if (got != want) {
      wrong++;
      asDue = false;
      System.out.println(run + ": " + String.join("; ", calls) + ", due is " + want);
    }
  }

  private int odd() {
    return ODD[random.nextInt(ODD.length)];
  }

  // A number of the range, and now and then one that is likely outside of it.
  private int number(int low, int high) {
    int kind = random.nextInt(40);
    if (kind == 0) return odd();
    if (kind == 1) return low - 1;
    if (kind == 2) return high + 1;
    return low + random.nextInt(Math.max(1, high - low + 1));
  }

  private int place() {
    return number(0, model.count(0) - 1);
  }

  private void change() {
    int kind = random.nextInt(40);
    if (kind < 26) {
      put(random.nextInt(30) == 0 ? odd() : random.nextInt(letters));
    } else if (kind < 28) {
      int many = random.nextInt(4) == 0 ? number(1, 60) : number(1, 6);
      due("drop(" + many + ")", x.drop(many), model.drop(many));
    } else if (kind < 31) {
      int place = place();
      int letter = number(0, 7);
      due("mend(" + place + ", " + letter + ")", x.mend(place, letter), model.mend(place, letter));
    } else if (kind < 36) {
      set();
    } else if (kind == 36) {
      due("keep()", x.keep(), model.keep());
    } else if (kind == 37) {
      due("restore()", x.restore(), model.restore());
    } else {
      due("undo()", x.undo(), model.undo());
    }
  }

  private void put(int letter) {
    // A copy of some letters that are there makes more rows worth telling.
    if (random.nextInt(6) == 0 && model.count(0) > 2) {
      int from = random.nextInt(model.count(0) - 1);
      for (int i = 0; i < 2 + random.nextInt(5); i++) {
        int again = model.letter(from + i);
        due("put(" + again + ")", x.put(again), model.put(again));
      }
      return;
    }
    due("put(" + letter + ")", x.put(letter), model.put(letter));
  }

  // A stretch that comes again and again, here and there with another letter: full rows, copies that
  // reach into themselves, reaches above 20, several candidates that are worth the same.
  private void putRowOfLongCopies() {
    int stretch = 1 + random.nextInt(12);
    int mended = 3 + random.nextInt(30);
    for (int i = random.nextInt(5); i > 0; i--) {
      set();
    }
    for (int i = 20 + random.nextInt(41); i > 0; i--) {
      int place = model.count(0) - stretch;
      put(place < 0 || random.nextInt(mended) == 0 ? random.nextInt(letters) : model.letter(place));
    }
  }

  private void set() {
    int[][] likely = {{1, 60}, {2, 6}, {1, 9}, {1, 20}, {1, 60}};
    int what = number(0, 4);
    int[] range = what >= 0 && what <= 4 ? likely[what] : likely[0];
    int value = number(range[0], range[1]);
    due("set(" + what + ", " + value + ")", x.set(what, value), model.set(what, value));
  }

  private void text() {
    int kind = random.nextInt(12);
    if (kind < 3) {
      type(" abchiz()(,,0123459~".charAt(random.nextInt(20)));
    } else if (kind < 7) {
      String copy = "(" + random.nextInt(random.nextBoolean() ? 4 : 24) + "," + random.nextInt(7) + ")";
      typeAll(random.nextInt(3) == 0 ? copy : "abcdefgh".substring(random.nextInt(8)));
    } else if (kind == 7) {
      due("clearText()", x.clearText(), model.clearText());
    } else if (kind == 8) {
      type(random.nextInt(3) == 0 ? odd() : 'a');
    } else if (kind == 9) {
      int way = number(0, 2);
      due("write(" + way + ")", x.write(way), model.write(way));
    } else if (kind == 10) {
      due("read()", x.read(), model.read());
    } else {
      int what = number(0, 1);
      due("fault(" + what + ")", x.fault(what), model.fault(what));
    }
  }

  private void typeAll(String text) {
    for (int i = 0; i < text.length(); i++) {
      type(text.charAt(i));
    }
  }

  private void type(int character) {
    due("type(" + character + ")", x.type(character), model.type(character));
  }

  private void ask() {
    int way = number(0, 2);
    int place = place();
    int what = number(0, 3);
    int index = random.nextInt(20) == 0 ? odd() : random.nextInt(16);
    switch (random.nextInt(11)) {
      case 0 -> due("letter(" + place + ")", x.letter(place), model.letter(place));
      case 1 -> {
        int of = number(0, 1);
        due("candidate(" + place + ", " + index + ", " + of + ")",
            x.candidate(place, index, of), model.candidate(place, index, of));
      }
      case 2 -> due("found(" + place + ", " + what + ")", x.found(place, what), model.found(place, what));
      case 3 -> {
        int length = number(2, 20);
        int distance = number(1, Math.max(1, place));
        due("isCopy(" + place + ", " + distance + ", " + length + ")",
            x.isCopy(place, distance, length), model.isCopy(place, distance, length));
      }
      case 4, 5 -> due("part(" + way + ", " + index + ", " + what + ")",
          x.part(way, index, what), model.part(way, index, what));
      case 6 -> {
        int of = number(0, 5);
        due("total(" + way + ", " + of + ")", x.total(way, of), model.total(way, of));
      }
      case 7 -> due("partAt(" + way + ", " + place + ")", x.partAt(way, place), model.partAt(way, place));
      case 8 -> {
        int other = number(0, 2);
        due("parting(" + way + ", " + other + ")", x.parting(way, other), model.parting(way, other));
      }
      case 9 -> {
        int of = number(0, 2);
        due("repeat(" + of + ")", x.repeat(of), model.repeat(of));
      }
      default -> {
        int of = random.nextInt(4) == 0 ? number(10, 14) : number(0, 5);
        due("count(" + of + ")", x.count(of), model.count(of));
      }
    }
  }
}
