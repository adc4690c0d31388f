import java.util.ArrayDeque;
import java.util.ArrayList;
import java.util.Arrays;
import java.util.Deque;
import java.util.HashSet;
import java.util.List;
import java.util.regex.Matcher;
import java.util.regex.Pattern;

// The document's words once more, each taken as directly as can be and without regard to speed. It
// shares no code and no way of working with the class: texts, patterns, lists of parts compared whole.
final class Model {
  private static final int INVALID = -10001;
  private static final int IMPOSSIBLE = -10002;
  private static final int LIMIT = -10003;
  private static final int NONE = -10004;
  private static final int[][] RANGES = {{1, 60}, {2, 6}, {1, 60}, {1, 20}, {1, 60}};
  private static final String COPY = "\\((0|[1-9][0-9]?),(0|[1-9][0-9]?)\\)";
  private static final Pattern PART = Pattern.compile("[a-h]|" + COPY);
  private static final Pattern PARTS = Pattern.compile("(?:[a-h]|" + COPY + ")*");

  private record Part(int place, int distance, int length) {
    boolean isCopy() {
      return distance > 0;
    }

    String text(String row) {
      return isCopy() ? "(" + distance + "," + length + ")" : row.substring(place, place + 1);
    }
  }

  private record Kept(String row, List<Integer> settings) {
  }

  private record Fault(int place, int reason) {
  }

  private String row = "";
  private int[] settings = {20, 3, 8, 8, 18};
  private final Deque<Kept> history = new ArrayDeque<>();
  private Kept snapshot = null;
  private String text = "";

  private static boolean in(int number, int low, int high) {
    return low <= number && number <= high;
  }

  private boolean isPlace(int place) {
    return in(place, 0, row.length() - 1);
  }

  private Kept now() {
    return new Kept(row, Arrays.stream(settings).boxed().toList());
  }

  private void become(Kept kept) {
    row = kept.row();
    settings = kept.settings().stream().mapToInt(Integer::intValue).toArray();
  }

  private void record() {
    history.addLast(now());
    if (history.size() == 5) {
      history.removeFirst();
    }
  }

  int put(int letter) {
    if (!in(letter, 0, 7)) return INVALID;
    if (row.length() == 60) return LIMIT;
    record();
    row += (char) ('a' + letter);
    return row.length();
  }

  int drop(int many) {
    if (!in(many, 1, 60)) return INVALID;
    if (row.length() < many) return IMPOSSIBLE;
    record();
    row = row.substring(0, row.length() - many);
    return row.length();
  }

  int mend(int place, int letter) {
    if (!isPlace(place) || !in(letter, 0, 7)) return INVALID;
    record();
    int was = row.charAt(place) - 'a';
    row = row.substring(0, place) + (char) ('a' + letter) + row.substring(place + 1);
    return was;
  }

  int set(int what, int value) {
    if (!in(what, 0, 4) || !in(value, RANGES[what][0], RANGES[what][1])) return INVALID;
    record();
    int was = settings[what];
    settings[what] = value;
    return was;
  }

  int letter(int place) {
    return isPlace(place) ? row.charAt(place) - 'a' : INVALID;
  }

  private boolean same(int place, int distance, int length) {
    return place + length <= row.length() && distance <= place
        && row.substring(place, place + length).equals(row.substring(place - distance, place - distance + length));
  }

  private List<Integer> candidates(int place) {
    List<Integer> distances = new ArrayList<>();
    for (int distance = 1; distance <= settings[0]; distance++) {
      if (same(place, distance, 2)) {
        distances.add(distance);
      }
    }
    return distances;
  }

  private List<Integer> lookedAt(int place) {
    List<Integer> all = candidates(place);
    return all.subList(0, Math.min(all.size(), settings[2]));
  }

  private int reach(int place, int distance) {
    int reach = 20;
    while (!same(place, distance, reach)) {
      reach--;
    }
    return reach;
  }

  // null if none is found
  private Part found(int place) {
    Part best = null;
    for (int distance : lookedAt(place)) {
      int reach = reach(place, distance);
      if (best == null || reach > best.length()) {
        best = new Part(place, distance, reach);
      }
    }
    return best == null || best.length() < settings[1] ? null : best;
  }

  private int saves(Part copy) {
    return copy.length() * settings[3] - settings[4];
  }

  int candidate(int place, int index, int what) {
    if (!isPlace(place) || index < 0 || !in(what, 0, 1)) return INVALID;
    List<Integer> distances = lookedAt(place);
    if (index >= distances.size()) return NONE;
    return what == 0 ? distances.get(index) : reach(place, distances.get(index));
  }

  int found(int place, int what) {
    if (!isPlace(place) || !in(what, 0, 3)) return INVALID;
    if (what == 3) return candidates(place).size();
    Part copy = found(place);
    if (copy == null) return NONE;
    return what == 0 ? copy.distance() : what == 1 ? copy.length() : saves(copy);
  }

  int isCopy(int place, int distance, int length) {
    if (!isPlace(place)) return INVALID;
    return in(distance, 1, settings[0]) && in(length, settings[1], 20) && same(place, distance, length) ? 1 : 0;
  }

  private List<Part> parts(int way) {
    if (way == 2) return cheapest();
    List<Part> parts = new ArrayList<>();
    int place = 0;
    while (place < row.length()) {
      Part copy = found(place);
      boolean taken = copy != null && (way == 0 || worth(copy));
      Part part = taken ? copy : new Part(place, 0, 1);
      parts.add(part);
      place += part.length();
    }
    return parts;
  }

  private boolean worth(Part copy) {
    for (int later = copy.place() + 1; later <= copy.place() + 2 && later < row.length(); later++) {
      Part other = found(later);
      if (other != null && saves(other) > saves(copy)) return false;
    }
    return saves(copy) > 0;
  }

  private int cost(List<Part> parts) {
    int cost = 0;
    for (Part part : parts) {
      cost += part.isCopy() ? settings[4] : settings[3];
    }
    return cost;
  }

  // The rows of parts from each place on that are best, each compared whole with each other.
  private List<Part> cheapest() {
    List<List<Part>> best = new ArrayList<>();
    for (int i = 0; i <= row.length(); i++) {
      best.add(List.of());
    }
    for (int place = row.length() - 1; place >= 0; place--) {
      List<Part> least = null;
      for (Part first : possible(place)) {
        List<Part> parts = new ArrayList<>(List.of(first));
        parts.addAll(best.get(place + first.length()));
        if (least == null || isBetter(parts, least)) {
          least = parts;
        }
      }
      best.set(place, least);
    }
    return best.get(0);
  }

  // In an order that no answer hangs on: the longest copies of the furthest candidates first.
  private List<Part> possible(int place) {
    List<Part> possible = new ArrayList<>();
    for (int distance : lookedAt(place)) {
      for (int length = settings[1]; length <= reach(place, distance); length++) {
        possible.add(0, new Part(place, distance, length));
      }
    }
    possible.add(possible.size() / 2, new Part(place, 0, 1));
    return possible;
  }

  private boolean isBetter(List<Part> one, List<Part> other) {
    if (cost(one) != cost(other)) return cost(one) < cost(other);
    int at = 0;
    while (at < one.size() && at < other.size() && one.get(at).equals(other.get(at))) {
      at++;
    }
    if (at == one.size() || at == other.size()) return false;
    Part a = one.get(at);
    Part b = other.get(at);
    if (a.isCopy() != b.isCopy()) return !a.isCopy();
    if (a.distance() != b.distance()) return a.distance() < b.distance();
    return a.length() > b.length();
  }

  // Every row of parts there is, one after the other, for rows that are short enough.
  boolean isCheapestOfAll() {
    return parts(2).equals(bestOfAll(new ArrayList<>(), 0, null));
  }

  private List<Part> bestOfAll(List<Part> sofar, int place, List<Part> best) {
    if (place == row.length()) return best == null || isBetter(sofar, best) ? new ArrayList<>(sofar) : best;
    for (Part part : possible(place)) {
      sofar.add(part);
      best = bestOfAll(sofar, place + part.length(), best);
      sofar.remove(sofar.size() - 1);
    }
    return best;
  }

  int part(int way, int index, int what) {
    if (!in(way, 0, 2) || index < 0 || !in(what, 0, 3)) return INVALID;
    List<Part> parts = parts(way);
    if (index >= parts.size()) return NONE;
    Part part = parts.get(index);
    return switch (what) {
      case 0 -> part.place();
      case 1 -> part.length();
      case 2 -> part.distance();
      default -> cost(List.of(part));
    };
  }

  int total(int way, int what) {
    if (!in(way, 0, 2) || !in(what, 0, 5)) return INVALID;
    List<Part> parts = parts(way);
    List<Integer> copies = parts.stream().filter(Part::isCopy).map(Part::length).toList();
    return switch (what) {
      case 0 -> parts.size();
      case 1 -> copies.size();
      case 2 -> cost(parts);
      case 3 -> row.length() * settings[3] - cost(parts);
      case 4 -> copies.stream().mapToInt(Integer::intValue).sum();
      default -> copies.stream().mapToInt(Integer::intValue).max().orElse(0);
    };
  }

  int partAt(int way, int place) {
    if (!in(way, 0, 2) || !isPlace(place)) return INVALID;
    List<Part> parts = parts(way);
    for (int index = 0; index < parts.size(); index++) {
      Part part = parts.get(index);
      if (in(place, part.place(), part.place() + part.length() - 1)) return index;
    }
    throw new IllegalStateException("no part tells the place");
  }

  int parting(int one, int other) {
    if (!in(one, 0, 2) || !in(other, 0, 2)) return INVALID;
    List<Part> a = parts(one);
    List<Part> b = parts(other);
    for (int index = 0; index < Math.min(a.size(), b.size()); index++) {
      if (!a.get(index).equals(b.get(index))) return a.get(index).place();
    }
    return NONE;
  }

  int repeat(int what) {
    if (!in(what, 0, 2)) return INVALID;
    for (int length = row.length() - 1; length > 0; length--) {
      for (int latter = 1; latter + length <= row.length(); latter++) {
        int former = row.indexOf(row.substring(latter, latter + length));
        if (former < latter) return what == 0 ? length : what == 1 ? former : latter;
      }
    }
    return NONE;
  }

  int count(int what) {
    if (in(what, 10, 14)) return settings[what - 10];
    return switch (what) {
      case 0 -> row.length();
      case 1 -> (int) row.chars().distinct().count();
      case 2 -> {
        int least = Math.min(total(0, 2), Math.min(total(1, 2), total(2, 2)));
        yield total(0, 2) == least ? 0 : total(1, 2) == least ? 1 : 2;
      }
      case 3 -> history.size();
      case 4 -> text.length();
      case 5 -> snapshot == null ? 0 : 1;
      default -> INVALID;
    };
  }

  int keep() {
    snapshot = now();
    return row.length();
  }

  int restore() {
    if (snapshot == null) return IMPOSSIBLE;
    record();
    become(snapshot);
    return row.length();
  }

  int undo() {
    if (history.isEmpty()) return IMPOSSIBLE;
    become(history.removeLast());
    return history.size();
  }

  int type(int character) {
    if (!in(character, 32, 126)) return INVALID;
    if (text.length() == 120) return LIMIT;
    text += (char) character;
    return text.length();
  }

  int clearText() {
    int was = text.length();
    text = "";
    return was;
  }

  int write(int way) {
    if (!in(way, 0, 2)) return INVALID;
    StringBuilder written = new StringBuilder();
    for (Part part : parts(way)) {
      written.append(part.text(row));
    }
    if (written.length() > 120) return LIMIT;
    text = written.toString();
    return text.length();
  }

  // The least by place, then by reason, of all faults that there are; null if there is none.
  private Fault fault() {
    HashSet<Fault> faults = new HashSet<>();
    int wrong = wrongCharacter();
    if (wrong >= 0) {
      faults.add(new Fault(wrong, 1));
    }
    int letters = 0;
    Matcher part = PART.matcher(text);
    int place = 0;
    while (place < text.length() && part.region(place, text.length()).lookingAt()) {
      int length = 1;
      if (part.group(1) != null) {
        int distance = Integer.parseInt(part.group(1));
        length = Integer.parseInt(part.group(2));
        if (distance == 0 || distance > settings[0] || distance > letters) {
          faults.add(new Fault(place, 2));
        }
        if (length < settings[1] || length > 20) {
          faults.add(new Fault(place, 3));
        }
      }
      letters += length;
      if (letters > 60) {
        faults.add(new Fault(place, 4));
      }
      place = part.end();
    }
    return faults.stream().min((a, b) -> a.place() != b.place()
        ? Integer.compare(a.place(), b.place()) : Integer.compare(a.reason(), b.reason())).orElse(null);
  }

  // The first index up to which no text that goes on can be well formed; -1 if the text is.
  private int wrongCharacter() {
    if (PARTS.matcher(text).matches()) return -1;
    String[] ends = {"", "1,1)", ",1)", "1)", ")"};
    for (int index = 0; index < text.length(); index++) {
      boolean goesOn = false;
      for (String end : ends) {
        goesOn = goesOn || PARTS.matcher(text.substring(0, index + 1) + end).matches();
      }
      if (!goesOn) return index;
    }
    return text.length();
  }

  int fault(int what) {
    if (!in(what, 0, 1)) return INVALID;
    Fault fault = fault();
    return fault == null ? NONE : what == 0 ? fault.place() : fault.reason();
  }

  int read() {
    if (fault() != null) return IMPOSSIBLE;
    record();
    StringBuilder told = new StringBuilder();
    Matcher part = PART.matcher(text);
    while (part.find()) {
      if (part.group(1) == null) {
        told.append(part.group());
      } else {
        for (int i = 0; i < Integer.parseInt(part.group(2)); i++) {
          told.append(told.charAt(told.length() - Integer.parseInt(part.group(1))));
        }
      }
    }
    row = told.toString();
    return row.length();
  }
}
