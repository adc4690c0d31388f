// A row of letters told as letters and as copies of what stands a little ahead. The document's
// promises say what each call answers; README.md says how to use the class.
//
// All rows of numbers are made once in the constructor and used again by every call, and all of them
// are read and written through at and store, so that no index can make the machine throw.
public final class WindowCopies {
  public static final int INVALID_ARGUMENT = -10001;
  public static final int NOT_POSSIBLE = -10002;
  public static final int LIMIT_REACHED = -10003;
  public static final int NOT_FOUND = -10004;

  private static final int MOST_LETTERS = 60;
  private static final int HIGHEST_LETTER = 7;
  private static final int LONGEST_COPY = 20;
  private static final int MOST_CHARACTERS = 120;
  private static final int MOST_STATES = 4;

  private static final int SETTINGS = 5;
  private static final int WINDOW = 0;
  private static final int LEAST_LENGTH = 1;
  private static final int LOOKED_AT = 2;
  private static final int LETTER_COST = 3;
  private static final int COPY_COST = 4;
  private static final int[] LOWEST_VALUES = {1, 2, 1, 1, 1};
  private static final int[] HIGHEST_VALUES = {60, 6, 60, 20, 60};
  private static final int[] FIRST_VALUES = {20, 3, 8, 8, 18};
  private static final int COUNT_OF_FIRST_SETTING = 10;

  private static final int WAYS = 3;
  private static final int FOUND = 0;
  private static final int WEIGHED = 1;
  private static final int CHEAPEST = 2;

  private static final int NOTHING = -1;

  private final State state = new State();
  private final State snapshot = new State();
  private boolean hasSnapshot = false;
  private final History history = new History();
  private final Candidates candidates = new Candidates(state);
  private final Plan plan = new Plan(state, candidates);
  private final Stretch stretch = new Stretch();
  private final Text text = new Text();
  private final TextReader reader = new TextReader(text, state);

  public WindowCopies() {
  }

  // ---- the row

  public int put(int letter) {
    if (!isLetter(letter)) {
      return INVALID_ARGUMENT;
    }
    if (state.size() >= MOST_LETTERS) {
      return LIMIT_REACHED;
    }
    history.record(state);
    state.append(letter);
    return state.size();
  }

  public int drop(int many) {
    if (!isIn(many, 1, MOST_LETTERS)) {
      return INVALID_ARGUMENT;
    }
    if (many > state.size()) {
      return NOT_POSSIBLE;
    }
    history.record(state);
    state.shorten(many);
    return state.size();
  }

  public int mend(int place, int letter) {
    if (!state.hasPlace(place) || !isLetter(letter)) {
      return INVALID_ARGUMENT;
    }
    history.record(state);
    int before = state.letterAt(place);
    state.changeLetter(place, letter);
    return before;
  }

  public int set(int what, int value) {
    if (!isIn(what, 0, SETTINGS - 1)
        || !isIn(value, at(LOWEST_VALUES, what), at(HIGHEST_VALUES, what))) {
      return INVALID_ARGUMENT;
    }
    history.record(state);
    int before = state.setting(what);
    state.changeSetting(what, value);
    return before;
  }

  public int letter(int place) {
    return state.hasPlace(place) ? state.letterAt(place) : INVALID_ARGUMENT;
  }

  // ---- candidates, copies

  public int candidate(int place, int index, int what) {
    if (!state.hasPlace(place) || index < 0 || !isIn(what, 0, 1)) {
      return INVALID_ARGUMENT;
    }
    candidates.lookAt(place);
    if (index >= candidates.lookedAt()) {
      return NOT_FOUND;
    }
    return what == 0 ? candidates.distance(index) : candidates.reach(index);
  }

  public int found(int place, int what) {
    if (!state.hasPlace(place) || !isIn(what, 0, 3)) {
      return INVALID_ARGUMENT;
    }
    candidates.lookAt(place);
    if (what == 3) {
      return candidates.all();
    }
    int best = candidates.best();
    if (best == NOTHING) {
      return NOT_FOUND;
    }
    switch (what) {
      case 0: return candidates.distance(best);
      case 1: return candidates.reach(best);
      default: return state.savingOf(candidates.reach(best));
    }
  }

  public int isCopy(int place, int distance, int length) {
    if (!state.hasPlace(place)) {
      return INVALID_ARGUMENT;
    }
    boolean inWindow = isIn(distance, 1, Math.min(state.setting(WINDOW), place));
    boolean longEnough = isIn(length, state.setting(LEAST_LENGTH), LONGEST_COPY);
    return inWindow && longEnough && state.likeLength(place - distance, place) >= length ? 1 : 0;
  }

  // ---- parts

  public int part(int way, int index, int what) {
    if (!isWay(way) || index < 0 || !isIn(what, 0, 3)) {
      return INVALID_ARGUMENT;
    }
    plan.make();
    plan.layOut(way);
    if (index >= plan.parts()) {
      return NOT_FOUND;
    }
    int begin = plan.beginOf(index);
    switch (what) {
      case 0: return begin;
      case 1: return plan.lengthAt(way, begin);
      case 2: return plan.distanceAt(way, begin);
      default: return state.setting(plan.distanceAt(way, begin) == 0 ? LETTER_COST : COPY_COST);
    }
  }

  public int total(int way, int what) {
    if (!isWay(way) || !isIn(what, 0, 5)) {
      return INVALID_ARGUMENT;
    }
    plan.make();
    plan.layOut(way);
    switch (what) {
      case 0: return plan.parts();
      case 1: return plan.copies();
      case 2: return plan.cost();
      case 3: return state.size() * state.setting(LETTER_COST) - plan.cost();
      case 4: return plan.copiedLetters();
      default: return plan.longestCopy();
    }
  }

  public int partAt(int way, int place) {
    if (!isWay(way) || !state.hasPlace(place)) {
      return INVALID_ARGUMENT;
    }
    plan.make();
    plan.layOut(way);
    return plan.indexAt(place);
  }

  public int parting(int one, int other) {
    if (!isWay(one) || !isWay(other)) {
      return INVALID_ARGUMENT;
    }
    plan.make();
    int place = plan.firstUnlike(one, other);
    return place == NOTHING ? NOT_FOUND : place;
  }

  public int repeat(int what) {
    if (!isIn(what, 0, 2)) {
      return INVALID_ARGUMENT;
    }
    stretch.findLongest(state);
    if (stretch.length() == 0) {
      return NOT_FOUND;
    }
    switch (what) {
      case 0: return stretch.length();
      case 1: return stretch.former();
      default: return stretch.latter();
    }
  }

  public int count(int what) {
    switch (what) {
      case 0: return state.size();
      case 1: return state.unlikeLetters();
      case 2: return cheapestWay();
      case 3: return history.size();
      case 4: return text.size();
      case 5: return hasSnapshot ? 1 : 0;
      default: return settingCount(what);
    }
  }

  private int settingCount(int what) {
    if (!isIn(what, COUNT_OF_FIRST_SETTING, COUNT_OF_FIRST_SETTING + SETTINGS - 1)) {
      return INVALID_ARGUMENT;
    }
    return state.setting(what - COUNT_OF_FIRST_SETTING);
  }

  // Way 2 costs least of all rows of parts, but way 0 or 1 may cost as little and stands lower.
  private int cheapestWay() {
    plan.make();
    plan.layOut(0);
    int cheapest = 0;
    int least = plan.cost();
    for (int way = 1; way < WAYS; way++) {
      plan.layOut(way);
      if (plan.cost() < least) {
        least = plan.cost();
        cheapest = way;
      }
    }
    return cheapest;
  }

  // ---- snapshot, undo

  public int keep() {
    snapshot.copyFrom(state);
    hasSnapshot = true;
    return state.size();
  }

  public int restore() {
    if (!hasSnapshot) {
      return NOT_POSSIBLE;
    }
    history.record(state);
    state.copyFrom(snapshot);
    return state.size();
  }

  public int undo() {
    if (history.size() == 0) {
      return NOT_POSSIBLE;
    }
    history.takeBack(state);
    return history.size();
  }

  // ---- texts

  public int type(int character) {
    if (!isIn(character, ' ', '~')) {
      return INVALID_ARGUMENT;
    }
    if (text.size() >= MOST_CHARACTERS) {
      return LIMIT_REACHED;
    }
    text.append(character);
    return text.size();
  }

  public int clearText() {
    int before = text.size();
    text.empty();
    return before;
  }

  public int write(int way) {
    if (!isWay(way)) {
      return INVALID_ARGUMENT;
    }
    plan.make();
    plan.layOut(way);
    if (charactersOf(way) > MOST_CHARACTERS) {
      return LIMIT_REACHED;
    }
    text.empty();
    for (int index = 0; index < plan.parts(); index++) {
      int begin = plan.beginOf(index);
      int distance = plan.distanceAt(way, begin);
      if (distance == 0) {
        text.append('a' + state.letterAt(begin));
      } else {
        text.appendCopy(distance, plan.lengthAt(way, begin));
      }
    }
    return text.size();
  }

  private int charactersOf(int way) {
    int characters = 0;
    for (int index = 0; index < plan.parts(); index++) {
      int begin = plan.beginOf(index);
      int distance = plan.distanceAt(way, begin);
      characters += distance == 0 ? 1 : Text.charactersOfCopy(distance, plan.lengthAt(way, begin));
    }
    return characters;
  }

  public int fault(int what) {
    if (!isIn(what, 0, 1)) {
      return INVALID_ARGUMENT;
    }
    reader.readThrough();
    if (!reader.hasFault()) {
      return NOT_FOUND;
    }
    return what == 0 ? reader.faultPlace() : reader.faultReason();
  }

  public int read() {
    reader.readThrough();
    if (reader.hasFault()) {
      return NOT_POSSIBLE;
    }
    history.record(state);
    state.copyRowFrom(reader.told());
    return state.size();
  }

  // ---- what the calls and the classes share

  private static boolean isIn(int number, int lowest, int highest) {
    return number >= lowest && number <= highest;
  }

  private static boolean isLetter(int letter) {
    return isIn(letter, 0, HIGHEST_LETTER);
  }

  private static boolean isWay(int way) {
    return isIn(way, 0, WAYS - 1);
  }

  private static int at(int[] numbers, int index) {
    return index >= 0 && index < numbers.length ? numbers[index] : NOTHING;
  }

  private static void store(int[] numbers, int index, int number) {
    if (index >= 0 && index < numbers.length) {
      numbers[index] = number;
    }
  }

  // What a change records and what a snapshot holds: the row and the settings, and not the text.
  private static final class State {
    private final int[] letters = new int[MOST_LETTERS];
    private final int[] settings = new int[SETTINGS];
    private int size = 0;

    State() {
      for (int what = 0; what < SETTINGS; what++) {
        store(settings, what, at(FIRST_VALUES, what));
      }
    }

    int size() {
      return size;
    }

    boolean hasPlace(int place) {
      return place >= 0 && place < size;
    }

    int letterAt(int place) {
      return at(letters, place);
    }

    void changeLetter(int place, int letter) {
      store(letters, place, letter);
    }

    void append(int letter) {
      if (size < MOST_LETTERS) {
        store(letters, size, letter);
        size++;
      }
    }

    void appendCopy(int distance, int length) {
      for (int i = 0; i < length; i++) {
        append(letterAt(size - distance));
      }
    }

    void shorten(int many) {
      size = Math.max(0, size - many);
    }

    int setting(int what) {
      return at(settings, what);
    }

    void changeSetting(int what, int value) {
      store(settings, what, value);
    }

    int savingOf(int length) {
      return length * setting(LETTER_COST) - setting(COPY_COST);
    }

    // How many letters from the latter place on are the same as those from the former one on.
    int likeLength(int former, int latter) {
      int length = 0;
      while (latter + length < size && letterAt(former + length) == letterAt(latter + length)) {
        length++;
      }
      return length;
    }

    int unlikeLetters() {
      int unlike = 0;
      for (int letter = 0; letter <= HIGHEST_LETTER; letter++) {
        if (holds(letter)) {
          unlike++;
        }
      }
      return unlike;
    }

    private boolean holds(int letter) {
      for (int place = 0; place < size; place++) {
        if (letterAt(place) == letter) {
          return true;
        }
      }
      return false;
    }

    void copyFrom(State other) {
      copyRowFrom(other);
      for (int what = 0; what < SETTINGS; what++) {
        changeSetting(what, other.setting(what));
      }
    }

    void copyRowFrom(State other) {
      size = other.size();
      for (int place = 0; place < size; place++) {
        changeLetter(place, other.letterAt(place));
      }
    }
  }

  // A ring, so that the oldest state's room serves the newest one when it is dropped.
  private static final class History {
    private final State[] states = new State[MOST_STATES];
    private int oldest = 0;
    private int size = 0;

    History() {
      for (int i = 0; i < states.length; i++) {
        states[i] = new State();
      }
    }

    int size() {
      return size;
    }

    void record(State now) {
      if (size == MOST_STATES) {
        oldest = slotOf(1);
        size--;
      }
      State room = stateAt(size);
      if (room != null) {
        room.copyFrom(now);
        size++;
      }
    }

    void takeBack(State now) {
      State latest = stateAt(size - 1);
      if (latest != null) {
        now.copyFrom(latest);
        size--;
      }
    }

    private State stateAt(int age) {
      int slot = slotOf(age);
      return age >= 0 && slot >= 0 && slot < states.length ? states[slot] : null;
    }

    private int slotOf(int age) {
      return (oldest + age) % MOST_STATES;
    }
  }

  // The candidates at one place. It goes through the places from the last one to the first, since the
  // letters that are the same from a place on follow from those at the next place.
  private static final class Candidates {
    private final State state;
    private final int[] likeLengths = new int[MOST_LETTERS + 1];
    private final int[] distances = new int[MOST_LETTERS];
    private int place = 0;
    private int all = 0;
    private int lookedAt = 0;

    Candidates(State state) {
      this.state = state;
    }

    void beginBehindRow() {
      place = state.size();
      all = 0;
      lookedAt = 0;
      for (int distance = 0; distance < likeLengths.length; distance++) {
        store(likeLengths, distance, 0);
      }
    }

    void stepAhead() {
      place--;
      all = 0;
      lookedAt = 0;
      int furthest = Math.min(state.setting(WINDOW), place);
      int mostLookedAt = state.setting(LOOKED_AT);
      for (int distance = 1; distance <= furthest; distance++) {
        boolean alike = state.letterAt(place) == state.letterAt(place - distance);
        int length = alike ? at(likeLengths, distance) + 1 : 0;
        store(likeLengths, distance, length);
        if (length >= 2) {
          takeIn(distance, mostLookedAt);
        }
      }
    }

    private void takeIn(int distance, int mostLookedAt) {
      all++;
      if (lookedAt < mostLookedAt) {
        store(distances, lookedAt, distance);
        lookedAt++;
      }
    }

    void lookAt(int wanted) {
      beginBehindRow();
      for (int next = state.size() - 1; next >= wanted; next--) {
        stepAhead();
      }
    }

    int all() {
      return all;
    }

    int lookedAt() {
      return lookedAt;
    }

    int distance(int index) {
      return at(distances, index);
    }

    int reach(int index) {
      return Math.min(LONGEST_COPY, at(likeLengths, at(distances, index)));
    }

    // The index of the copy that is found, NOTHING if none is.
    int best() {
      int best = NOTHING;
      int greatest = state.setting(LEAST_LENGTH) - 1;
      for (int index = 0; index < lookedAt; index++) {
        if (reach(index) > greatest) {
          greatest = reach(index);
          best = index;
        }
      }
      return best;
    }
  }

  // For each way and each place the part that the way tells if one begins there: it hangs on what comes
  // from the place on alone, not on the parts ahead of it, so that one pass from the end tells all.
  // A letter is a part with distance 0 and length 1.
  private static final class Plan {
    // Only copies that save more than 0 are weighed: against them a place without a copy counts nothing.
    private static final int NO_SAVING = 0;

    private final State state;
    private final Candidates candidates;
    private final int[] distances = new int[WAYS * MOST_LETTERS];
    private final int[] lengths = new int[WAYS * MOST_LETTERS];
    private final int[] savings = new int[MOST_LETTERS + 2];
    private final int[] leastCosts = new int[MOST_LETTERS + 1];
    private final int[] begins = new int[MOST_LETTERS];
    private int parts = 0;
    private int copies = 0;
    private int copiedLetters = 0;
    private int longestCopy = 0;

    Plan(State state, Candidates candidates) {
      this.state = state;
      this.candidates = candidates;
    }

    void make() {
      int size = state.size();
      store(savings, size, NO_SAVING);
      store(savings, size + 1, NO_SAVING);
      store(leastCosts, size, 0);
      candidates.beginBehindRow();
      for (int place = size - 1; place >= 0; place--) {
        candidates.stepAhead();
        planFound(place);
        planWeighed(place);
        planCheapest(place);
      }
    }

    private void planFound(int place) {
      int best = candidates.best();
      if (best == NOTHING) {
        planLetter(FOUND, place);
        store(savings, place, NO_SAVING);
      } else {
        int length = candidates.reach(best);
        planPart(FOUND, place, candidates.distance(best), length);
        store(savings, place, state.savingOf(length));
      }
    }

    private void planWeighed(int place) {
      int saving = at(savings, place);
      boolean beaten = at(savings, place + 1) > saving || at(savings, place + 2) > saving;
      if (saving > 0 && !beaten) {
        planPart(WEIGHED, place, distanceAt(FOUND, place), lengthAt(FOUND, place));
      } else {
        planLetter(WEIGHED, place);
      }
    }

    // What costs the same is met in the order of preference: the letter, then the less distance, then
    // the greater length; so only a lower cost takes the place of what was met before. A copy costs the
    // same from each distance; so the lengths that a nearer candidate has need not be looked at again.
    private void planCheapest(int place) {
      int least = state.setting(LETTER_COST) + at(leastCosts, place + 1);
      planLetter(CHEAPEST, place);
      int shortest = state.setting(LEAST_LENGTH);
      int copyCost = state.setting(COPY_COST);
      for (int index = 0; index < candidates.lookedAt(); index++) {
        for (int length = candidates.reach(index); length >= shortest; length--) {
          int cost = copyCost + at(leastCosts, place + length);
          if (cost < least) {
            least = cost;
            planPart(CHEAPEST, place, candidates.distance(index), length);
          }
        }
        shortest = Math.max(shortest, candidates.reach(index) + 1);
      }
      store(leastCosts, place, least);
    }

    private void planLetter(int way, int place) {
      planPart(way, place, 0, 1);
    }

    private void planPart(int way, int place, int distance, int length) {
      store(distances, way * MOST_LETTERS + place, distance);
      store(lengths, way * MOST_LETTERS + place, length);
    }

    int distanceAt(int way, int place) {
      return at(distances, way * MOST_LETTERS + place);
    }

    int lengthAt(int way, int place) {
      return at(lengths, way * MOST_LETTERS + place);
    }

    // Lists and counts the parts that the way tells from the first place on.
    void layOut(int way) {
      parts = 0;
      copies = 0;
      copiedLetters = 0;
      longestCopy = 0;
      int next = 0;
      for (int place = 0; place < state.size(); place++) {
        if (place == next) {
          store(begins, parts, place);
          parts++;
          if (distanceAt(way, place) != 0) {
            countCopy(lengthAt(way, place));
          }
          next = place + lengthAt(way, place);
        }
      }
    }

    private void countCopy(int length) {
      copies++;
      copiedLetters += length;
      longestCopy = Math.max(longestCopy, length);
    }

    int parts() {
      return parts;
    }

    int copies() {
      return copies;
    }

    int copiedLetters() {
      return copiedLetters;
    }

    int longestCopy() {
      return longestCopy;
    }

    int cost() {
      return (parts - copies) * state.setting(LETTER_COST) + copies * state.setting(COPY_COST);
    }

    int beginOf(int index) {
      return at(begins, index);
    }

    int indexAt(int place) {
      int index = 0;
      while (index + 1 < parts && beginOf(index + 1) <= place) {
        index++;
      }
      return index;
    }

    // The place of the first parts that are not the same, NOTHING if all are. Up to there both ways
    // begin their parts at the same places.
    int firstUnlike(int one, int other) {
      int next = 0;
      for (int place = 0; place < state.size(); place++) {
        if (place == next) {
          if (distanceAt(one, place) != distanceAt(other, place)
              || lengthAt(one, place) != lengthAt(other, place)) {
            return place;
          }
          next = place + lengthAt(one, place);
        }
      }
      return NOTHING;
    }
  }

  // The longest stretch that stands at two places.
  private static final class Stretch {
    private int length = 0;
    private int former = 0;
    private int latter = 0;

    // Where no more letters are left than the longest stretch has so far, no longer one can begin.
    void findLongest(State state) {
      length = 0;
      for (int later = 1; later + length < state.size(); later++) {
        for (int earlier = 0; earlier < later; earlier++) {
          int alike = state.likeLength(earlier, later);
          if (alike > length) {
            length = alike;
            former = earlier;
            latter = later;
          }
        }
      }
    }

    int length() {
      return length;
    }

    int former() {
      return former;
    }

    int latter() {
      return latter;
    }
  }

  private static final class Text {
    private final int[] characters = new int[MOST_CHARACTERS];
    private int size = 0;

    int size() {
      return size;
    }

    // NOTHING behind the end, which is no character that could stand there.
    int characterAt(int index) {
      return index < size ? at(characters, index) : NOTHING;
    }

    void empty() {
      size = 0;
    }

    void append(int character) {
      if (size < MOST_CHARACTERS) {
        store(characters, size, character);
        size++;
      }
    }

    void appendCopy(int distance, int length) {
      append('(');
      appendNumber(distance);
      append(',');
      appendNumber(length);
      append(')');
    }

    private void appendNumber(int number) {
      if (number >= 10) {
        append('0' + number / 10);
      }
      append('0' + number % 10);
    }

    static int charactersOfCopy(int distance, int length) {
      int signs = 3;
      return signs + digitsOf(distance) + digitsOf(length);
    }

    private static int digitsOf(int number) {
      return number >= 10 ? 2 : 1;
    }
  }

  // Makes a row of its own from the text, up to its first fault: a part that stands further on has no
  // fault at a lower place, so the first fault that is met is the one that is told.
  private static final class TextReader {
    private static final int NO_FAULT = 0;
    private static final int WRONG_CHARACTER = 1;
    private static final int WRONG_DISTANCE = 2;
    private static final int WRONG_LENGTH = 3;
    private static final int TOO_MANY_LETTERS = 4;

    private final Text text;
    private final State state;
    private final State told = new State();
    private int next = 0;
    private int place = 0;
    private int reason = NO_FAULT;

    TextReader(Text text, State state) {
      this.text = text;
      this.state = state;
    }

    void readThrough() {
      told.shorten(told.size());
      next = 0;
      reason = NO_FAULT;
      for (int turn = 0; turn < MOST_CHARACTERS && next < text.size() && !hasFault(); turn++) {
        int character = text.characterAt(next);
        if (character == '(') {
          takeCopy();
        } else {
          takeLetter(character - 'a');
        }
      }
    }

    boolean hasFault() {
      return reason != NO_FAULT;
    }

    int faultPlace() {
      return place;
    }

    int faultReason() {
      return reason;
    }

    State told() {
      return told;
    }

    private void takeLetter(int letter) {
      if (!isLetter(letter)) {
        blame(next, WRONG_CHARACTER);
      } else if (told.size() >= MOST_LETTERS) {
        blame(next, TOO_MANY_LETTERS);
      } else {
        told.append(letter);
        next++;
      }
    }

    private void takeCopy() {
      int begin = next;
      next++;
      int distance = takeNumber();
      takeSign(',');
      int length = takeNumber();
      takeSign(')');
      if (hasFault()) {
        return;
      }
      int wrong = reasonAgainst(distance, length);
      if (wrong != NO_FAULT) {
        blame(begin, wrong);
      } else {
        told.appendCopy(distance, length);
      }
    }

    private int reasonAgainst(int distance, int length) {
      if (!isIn(distance, 1, Math.min(state.setting(WINDOW), told.size()))) {
        return WRONG_DISTANCE;
      }
      if (!isIn(length, state.setting(LEAST_LENGTH), LONGEST_COPY)) {
        return WRONG_LENGTH;
      }
      return told.size() + length > MOST_LETTERS ? TOO_MANY_LETTERS : NO_FAULT;
    }

    // After a fault nothing more is taken, so that the first one stays.
    private int takeNumber() {
      if (hasFault()) {
        return NOTHING;
      }
      int first = digitAt(next);
      if (first == NOTHING) {
        blame(next, WRONG_CHARACTER);
        return NOTHING;
      }
      next++;
      int second = digitAt(next);
      if (first == 0 || second == NOTHING) {
        return first;
      }
      next++;
      return first * 10 + second;
    }

    private int digitAt(int index) {
      int character = text.characterAt(index);
      return isIn(character, '0', '9') ? character - '0' : NOTHING;
    }

    private void takeSign(int sign) {
      if (hasFault()) {
        return;
      }
      if (text.characterAt(next) == sign) {
        next++;
      } else {
        blame(next, WRONG_CHARACTER);
      }
    }

    private void blame(int where, int why) {
      place = where;
      reason = why;
    }
  }
}
