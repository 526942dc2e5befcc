import java.util.ArrayDeque;
import java.util.ArrayList;
import java.util.Arrays;
import java.util.Deque;
import java.util.HashMap;
import java.util.List;
import java.util.Map;
import java.util.NoSuchElementException;
import java.util.regex.Matcher;
import java.util.regex.Pattern;

/**
 * The document once more, word by word and slowly, so that Linkcourt can be held against it. It
 * keeps the whole position as a row of owners and shares no idea with the program that it tests.
 */
final class Oracle {
  private static final int NONE = -1;
  private static final int RHOMB = 0, TRIANGLE = 1, CYLINDER = 2;

  private int kind, rows, columns;
  private final List<int[]> places = new ArrayList<>();
  private final List<List<Integer>> around = new ArrayList<>();
  private final List<int[]> history = new ArrayList<>(); // owners ahead of each move
  private final List<Integer> movedTo = new ArrayList<>();
  private boolean swapped;
  private int[] owners;
  private boolean recorded;

  private final StringBuilder tape = new StringBuilder();
  private final List<String> patterns = new ArrayList<>();

  private boolean clocked;
  private int each;
  private final int[] seconds = new int[2], periods = new int[2], used = new int[2];
  private int loser = NONE;

  private final List<Integer> ladder = new ArrayList<>();
  private final int[] ratings = new int[10], won = new int[10], lost = new int[10];

  Oracle() {
    lay(RHOMB, 2, 2);
  }

  private void lay(int kind, int rows, int columns) {
    this.kind = kind;
    this.rows = rows;
    this.columns = columns;
    places.clear();
    for (int r = 0; r < rows; r++) {
      for (int c = 0; c < (kind == TRIANGLE ? r + 1 : columns); c++) {
        places.add(new int[] {r, c});
      }
    }
    around.clear();
    for (int i = 0; i < places.size(); i++) {
      around.add(neighboursAnew(i));
    }
    owners = new int[places.size()];
    Arrays.fill(owners, NONE);
    history.clear();
    movedTo.clear();
    swapped = false;
    recorded = false;
    clocked = false;
    loser = NONE;
    Arrays.fill(seconds, 0);
    Arrays.fill(periods, 0);
    Arrays.fill(used, 0);
  }

  private int numberAt(int r, int c) {
    for (int i = 0; i < places.size(); i++) {
      if (places.get(i)[0] == r && places.get(i)[1] == c) {
        return i;
      }
    }
    return NONE;
  }

  private int next(int cell, int direction) {
    int r = places.get(cell)[0], c = places.get(cell)[1];
    if (kind == TRIANGLE) {
      switch (direction) {
        case 0: return numberAt(r, c + 1);
        case 1: return numberAt(r + 1, c + 1);
        case 2: return numberAt(r + 1, c);
        case 3: return numberAt(r, c - 1);
        case 4: return numberAt(r - 1, c - 1);
        default: return numberAt(r - 1, c);
      }
    }
    int plus = c + 1, minus = c - 1;
    if (kind == CYLINDER) {
      plus = (c + 1) % columns;
      minus = (c + columns - 1) % columns;
    }
    switch (direction) {
      case 0: return numberAt(r, plus);
      case 1: return numberAt(r + 1, c);
      case 2: return numberAt(r + 1, minus);
      case 3: return numberAt(r, minus);
      case 4: return numberAt(r - 1, c);
      default: return numberAt(r - 1, plus);
    }
  }

  private List<Integer> neighbours(int cell) {
    return around.get(cell);
  }

  private List<Integer> neighboursAnew(int cell) {
    List<Integer> found = new ArrayList<>();
    for (int d = 0; d < 6; d++) {
      int next = next(cell, d);
      if (next != NONE && !found.contains(next)) {
        found.add(next);
      }
    }
    return found;
  }

  private int sideCount() {
    return kind == RHOMB ? 4 : kind == TRIANGLE ? 3 : 2;
  }

  private boolean atSide(int cell, int side) {
    int r = places.get(cell)[0], c = places.get(cell)[1];
    if (kind == RHOMB) {
      return side == 0 ? c == 0 : side == 1 ? c == columns - 1 : side == 2 ? r == 0 : r == rows - 1;
    }
    if (kind == TRIANGLE) {
      return side == 0 ? numberAt(r, c - 1) == NONE : side == 1 ? numberAt(r, c + 1) == NONE
          : numberAt(r + 1, c) == NONE;
    }
    return side == 0 ? r == 0 : r == rows - 1;
  }

  /** All cells that hang together with one, over cells for which over says so. */
  private boolean[] spread(int from, boolean[] over) {
    boolean[] seen = new boolean[over.length];
    Deque<Integer> todo = new ArrayDeque<>();
    if (over[from]) {
      seen[from] = true;
      todo.add(from);
    }
    while (!todo.isEmpty()) {
      for (int next : neighbours(todo.poll())) {
        if (over[next] && !seen[next]) {
          seen[next] = true;
          todo.add(next);
        }
      }
    }
    return seen;
  }

  private List<boolean[]> groups(int[] owners, int player) {
    boolean[] over = new boolean[owners.length];
    for (int i = 0; i < over.length; i++) {
      over[i] = owners[i] == player;
    }
    return parts(over);
  }

  private List<boolean[]> parts(boolean[] over) {
    List<boolean[]> groups = new ArrayList<>();
    boolean[] done = new boolean[over.length];
    for (int i = 0; i < over.length; i++) {
      if (over[i] && !done[i]) {
        boolean[] group = spread(i, over);
        for (int j = 0; j < group.length; j++) {
          done[j] |= group[j];
        }
        groups.add(group);
      }
    }
    return groups;
  }

  private boolean touches(boolean[] group, int side) {
    for (int i = 0; i < group.length; i++) {
      if (group[i] && atSide(i, side)) {
        return true;
      }
    }
    return false;
  }

  private boolean joined(int[] owners, int player) {
    if (kind == CYLINDER && player == 1) {
      boolean[] over = new boolean[owners.length];
      for (int i = 0; i < over.length; i++) {
        over[i] = owners[i] != 1;
      }
      for (boolean[] part : parts(over)) {
        if (touches(part, 0) && touches(part, 1)) {
          return false;
        }
      }
      return true;
    }
    for (boolean[] group : groups(owners, player)) {
      boolean all = true;
      for (int side = 0; side < sideCount(); side++) {
        boolean needed = kind != RHOMB || side / 2 == player;
        all &= !needed || touches(group, side);
      }
      if (all) {
        return true;
      }
    }
    return false;
  }

  private int whoJoined(int[] owners) {
    return joined(owners, 0) ? 0 : joined(owners, 1) ? 1 : NONE;
  }

  private int winner() {
    return loser != NONE ? 1 - loser : whoJoined(owners);
  }

  private int turn() {
    return movedTo.size() % 2;
  }

  private boolean hasCell(int cell) {
    return cell >= 0 && cell < places.size();
  }

  private static void index(boolean bad) {
    if (bad) {
      throw new IndexOutOfBoundsException();
    }
  }

  private static void argument(boolean bad) {
    if (bad) {
      throw new IllegalArgumentException();
    }
  }

  private static void state(boolean bad) {
    if (bad) {
      throw new IllegalStateException();
    }
  }

  // ---- games

  int game(int kind, int rows, int columns) {
    argument(kind < 0 || kind > 2 || rows < 2 || rows > 6);
    argument(kind == RHOMB && (columns < 2 || columns > 6));
    argument(kind == CYLINDER && (columns < 3 || columns > 6));
    argument(kind == TRIANGLE && columns != rows);
    lay(kind, rows, columns);
    return places.size();
  }

  int move(int cell) {
    index(!hasCell(cell));
    argument(owners[cell] != NONE);
    state(winner() != NONE);
    int player = turn();
    history.add(owners.clone());
    movedTo.add(cell);
    owners[cell] = player;
    used[player] = 0;
    return winner();
  }

  int swap() {
    state(winner() != NONE || movedTo.size() != 1);
    int cell = movedTo.get(0);
    history.add(owners.clone());
    owners[cell] = NONE;
    if (kind == RHOMB && rows == columns) {
      cell = numberAt(places.get(cell)[1], places.get(cell)[0]);
    }
    owners[cell] = 1;
    movedTo.add(cell);
    swapped = true;
    used[1] = 0;
    return cell;
  }

  int undo() {
    state(movedTo.isEmpty() || loser != NONE || recorded);
    int last = movedTo.size() - 1;
    movedTo.remove(last);
    owners = history.remove(last);
    if (last == 1) {
      swapped = false;
    }
    return last;
  }

  private int emptyCount(int[] owners) {
    int n = 0;
    for (int owner : owners) {
      n += owner == NONE ? 1 : 0;
    }
    return n;
  }

  int told(int what) {
    argument(what < 0 || what > 6);
    switch (what) {
      case 0: return movedTo.size();
      case 1: return turn();
      case 2: return emptyCount(owners);
      case 3: return whoJoined(owners);
      case 4: return winner();
      default: return groups(owners, what - 5).size();
    }
  }

  int cell(int cell, int what) {
    index(!hasCell(cell));
    argument(what < 0 || what > 6);
    if (what == 4 || what == 5) {
      return places.get(cell)[what - 4];
    }
    if (owners[cell] == NONE) {
      return NONE;
    }
    if (what == 0) {
      return owners[cell];
    }
    if (what == 6) {
      return movedTo.lastIndexOf(cell);
    }
    for (boolean[] group : groups(owners, owners[cell])) {
      if (group[cell]) {
        return ofGroup(group, what);
      }
    }
    throw new NoSuchElementException();
  }

  private int ofGroup(boolean[] group, int what) {
    int size = 0, low = NONE, bits = 0;
    for (int i = group.length - 1; i >= 0; i--) {
      if (group[i]) {
        size++;
        low = i;
      }
    }
    for (int side = 0; side < sideCount(); side++) {
      bits += touches(group, side) ? 1 << side : 0;
    }
    return what == 1 ? size : what == 2 ? bits : low;
  }

  int neighbour(int cell, int direction) {
    index(!hasCell(cell));
    argument(direction < 0 || direction > 5);
    return next(cell, direction);
  }

  // ---- best play

  /** n, if the player to move wins, in n moves; -n, if the other one does. */
  private int outcome(int[] owners, int turn, Map<String, Integer> known) {
    String key = key(owners, 0);
    Integer found = known.get(key);
    if (found != null) {
      return found;
    }
    int win = 0, loss = 0;
    for (int i = 0; i < owners.length; i++) {
      if (owners[i] == NONE) {
        int[] then = owners.clone();
        then[i] = turn;
        if (joined(then, turn)) {
          win = 1;
        } else {
          int reply = outcome(then, 1 - turn, known);
          if (reply < 0 && (win == 0 || 1 - reply < win)) {
            win = 1 - reply;
          }
          if (reply > 0) {
            loss = Math.max(loss, 1 + reply);
          }
        }
      }
    }
    int result = win > 0 ? win : -loss;
    known.put(key, result);
    return result;
  }

  private static String key(int[] owners, long left) {
    char[] signs = new char[owners.length];
    for (int i = 0; i < signs.length; i++) {
      signs[i] = (left >> i & 1) != 0 ? 'l' : (char) ('b' + owners[i]);
    }
    return new String(signs);
  }

  private int bestOf(int[] owners, int turn) {
    int joined = whoJoined(owners);
    if (joined != NONE) {
      return joined;
    }
    return outcome(owners, turn, new HashMap<>()) > 0 ? turn : 1 - turn;
  }

  int best() {
    state(emptyCount(owners) > 9);
    return bestOf(owners, turn());
  }

  long wins() {
    state(emptyCount(owners) > 9);
    long set = 0;
    if (whoJoined(owners) == NONE) {
      for (int i = 0; i < owners.length; i++) {
        if (owners[i] == NONE) {
          int[] then = owners.clone();
          then[i] = turn();
          set |= bestOf(then, 1 - turn()) == turn() ? 1L << i : 0;
        }
      }
    }
    return set;
  }

  int lasts() {
    state(emptyCount(owners) > 9);
    return whoJoined(owners) != NONE ? 0 : Math.abs(outcome(owners, turn(), new HashMap<>()));
  }

  long dead() {
    state(emptyCount(owners) > 9);
    long set = 0;
    for (int i = 0; i < owners.length; i++) {
      if (owners[i] == NONE && isDead(owners, i, 0)) {
        set |= 1L << i;
      }
    }
    return set;
  }

  private boolean isDead(int[] owners, int cell, int from) {
    for (int i = from; i < owners.length; i++) {
      if (owners[i] == NONE && i != cell) {
        int[] with0 = owners.clone(), with1 = owners.clone();
        with0[i] = 0;
        with1[i] = 1;
        return isDead(with0, cell, i + 1) && isDead(with1, cell, i + 1);
      }
    }
    int[] with0 = owners.clone(), with1 = owners.clone();
    with0[cell] = 0;
    with1[cell] = 1;
    if (joined(with0, 0) == joined(with0, 1) || joined(with1, 0) == joined(with1, 1)) {
      throw new NoSuchElementException("not just one player has joined");
    }
    return whoJoined(with0) == whoJoined(with1);
  }

  private boolean hasEnd(int end) {
    return hasCell(end) || end >= 100 && end < 100 + sideCount();
  }

  private boolean endsJoined(int[] owners, int player, int one, int other) {
    for (boolean[] group : groups(owners, player)) {
      if (has(group, one) && has(group, other)) {
        return true;
      }
    }
    return false;
  }

  private boolean has(boolean[] group, int end) {
    return end >= 100 ? touches(group, end - 100) : group[end];
  }

  /** Whether the player can have the ends joined, as both fill the cells left of a set. */
  private boolean canJoin(int[] owners, long left, int player, int turn, int[] ends,
      Map<String, Boolean> known) {
    if (left == 0) {
      return endsJoined(owners, player, ends[0], ends[1]);
    }
    String key = key(owners, left);
    Boolean found = known.get(key);
    if (found != null) {
      return found;
    }
    boolean result = turn != player;
    for (int i = 0; i < owners.length; i++) {
      if ((left >> i & 1) != 0) {
        int[] then = owners.clone();
        then[i] = turn;
        boolean can = canJoin(then, left & ~(1L << i), player, 1 - turn, ends, known);
        result = turn == player ? result || can : result && can;
      }
    }
    known.put(key, result);
    return result;
  }

  private void checkEnds(int player, int one, int other, boolean alsoBad) {
    index(player < 0 || player > 1 || !hasEnd(one) || !hasEnd(other) || alsoBad);
    argument(one == other);
    argument(one < 100 && owners[one] != player);
    argument(other < 100 && owners[other] != player);
    state(emptyCount(owners) > 9);
  }

  long carrier(int player, int one, int other) {
    checkEnds(player, one, other, false);
    long empty = 0;
    for (int i = 0; i < owners.length; i++) {
      empty |= owners[i] == NONE ? 1L << i : 0;
    }
    long found = NONE;
    Map<String, Boolean> known = new HashMap<>();
    for (long set = empty;; set = set - 1 & empty) {
      boolean better = found == NONE || Long.bitCount(set) < Long.bitCount(found)
          || Long.bitCount(set) == Long.bitCount(found) && set < found;
      if (better && canJoin(owners, set, player, 1 - player, new int[] {one, other}, known)) {
        found = set;
      }
      if (set == 0) {
        return found;
      }
    }
  }

  int answer(int player, int one, int other, int cell) {
    checkEnds(player, one, other, !hasCell(cell));
    long carrier = carrier(player, one, other);
    if (carrier == NONE || (carrier >> cell & 1) == 0) {
      return NONE;
    }
    int[] then = owners.clone();
    then[cell] = 1 - player;
    long left = carrier & ~(1L << cell);
    for (int i = 0; i < owners.length; i++) {
      if ((left >> i & 1) != 0) {
        int[] answered = then.clone();
        answered[i] = player;
        if (canJoin(answered, left & ~(1L << i), player, 1 - player, new int[] {one, other},
            new HashMap<>())) {
          return i;
        }
      }
    }
    throw new NoSuchElementException("a carrier without an answer");
  }

  boolean gaveAway(int number) {
    index(number < 0 || number >= movedTo.size());
    argument(number == 1 && swapped);
    int[] ahead = history.get(number);
    state(emptyCount(ahead) > 9);
    int[] behind = number + 1 < history.size() ? history.get(number + 1) : owners;
    int mover = number % 2;
    return bestOf(ahead, mover) == mover && bestOf(behind, 1 - mover) == 1 - mover;
  }

  // ---- far, playing out

  /** The fewest of all sets of empty cells, where they are few; told twice there. */
  int far(int player) {
    index(player < 0 || player > 1);
    state(player == 1 && kind == CYLINDER);
    int fewest = fewestByParts(player);
    if (emptyCount(owners) <= 10 && fewest != fewestOfAllSets(player)) {
      throw new NoSuchElementException("the Oracle is at odds with itself on far");
    }
    return fewest;
  }

  private int fewestOfAllSets(int player) {
    List<Integer> empties = new ArrayList<>();
    for (int i = 0; i < owners.length; i++) {
      if (owners[i] == NONE) {
        empties.add(i);
      }
    }
    int fewest = NONE;
    for (int set = 0; set < 1 << empties.size(); set++) {
      int size = Integer.bitCount(set);
      if (fewest == NONE || size < fewest) {
        int[] then = owners.clone();
        for (int i = 0; i < empties.size(); i++) {
          then[empties.get(i)] = (set >> i & 1) != 0 ? player : NONE;
        }
        fewest = joined(then, player) ? size : fewest;
      }
    }
    return fewest;
  }

  /**
   * Grows hanging sets of cells cell by cell and joins two of them where they meet: of each cell
   * and each set of sides the fewest empty cells of a set that has the cell and is at these sides.
   */
  private int fewestByParts(int player) {
    int needed = kind == TRIANGLE ? 7 : kind == RHOMB && player == 1 ? 12 : 3;
    int[][] fewest = new int[16][owners.length];
    for (int sides = 0; sides < 16; sides++) {
      for (int cell = 0; cell < owners.length; cell++) {
        boolean alone = owners[cell] != 1 - player && (sidesOf(cell) & needed) == sides;
        fewest[sides][cell] = alone ? weight(cell) : 1000;
      }
    }
    boolean changed = true;
    while (changed) {
      changed = false;
      for (int sides = 0; sides < 16; sides++) {
        for (int cell = 0; cell < owners.length; cell++) {
          changed |= fewest[sides][cell] < 1000 && grow(fewest, sides, cell, player, needed);
        }
      }
    }
    int least = 1000;
    for (int found : fewest[needed]) {
      least = Math.min(least, found);
    }
    return least == 1000 ? NONE : least;
  }

  private boolean grow(int[][] fewest, int sides, int cell, int player, int needed) {
    boolean changed = false;
    for (int next : neighbours(cell)) {
      int more = sides | sidesOf(next) & needed, count = fewest[sides][cell] + weight(next);
      if (owners[next] != 1 - player && count < fewest[more][next]) {
        fewest[more][next] = count;
        changed = true;
      }
    }
    for (int others = 0; others < 16; others++) {
      int count = fewest[sides][cell] + fewest[others][cell] - weight(cell);
      if (count < fewest[sides | others][cell]) {
        fewest[sides | others][cell] = count;
        changed = true;
      }
    }
    return changed;
  }

  private int weight(int cell) {
    return owners[cell] == NONE ? 1 : 0;
  }

  private int sidesOf(int cell) {
    int bits = 0;
    for (int side = 0; side < sideCount(); side++) {
      bits |= atSide(cell, side) ? 1 << side : 0;
    }
    return bits;
  }

  private int[] playOut(int seed) {
    long x = seed;
    int[] then = owners.clone();
    int turn = turn(), last = NONE;
    while (emptyCount(then) > 0) {
      int chosen = last == NONE ? NONE : saving(then, turn, last);
      if (chosen == NONE) {
        List<Integer> empties = new ArrayList<>();
        for (int i = 0; i < then.length; i++) {
          if (then[i] == NONE) {
            empties.add(i);
          }
        }
        x = Math.floorMod(1103515245L * x + 12345, 2147483648L);
        chosen = empties.get((int) (Math.floorDiv(x, 65536L) % empties.size()));
      }
      then[chosen] = turn;
      last = chosen;
      turn = 1 - turn;
    }
    return then;
  }

  private int saving(int[] owners, int player, int last) {
    int lowest = NONE;
    for (int a = 0; a < owners.length; a++) {
      for (int b = a + 1; b < owners.length; b++) {
        if (owners[a] == player && owners[b] == player && !neighbours(a).contains(b)) {
          List<Integer> common = new ArrayList<>(neighbours(a));
          common.retainAll(neighbours(b));
          if (common.size() == 2 && common.contains(last)) {
            int mending = common.get(0) == last ? common.get(1) : common.get(0);
            if (owners[mending] == NONE && (lowest == NONE || mending < lowest)) {
              lowest = mending;
            }
          }
        }
      }
    }
    return lowest;
  }

  int plays(int seed, int times) {
    argument(seed < 0 || seed > 1000000 || times < 1 || times > 50);
    state(whoJoined(owners) != NONE);
    int n = 0;
    for (int i = 0; i < times; i++) {
      n += joined(playOut(seed + i), 0) ? 1 : 0;
    }
    return n;
  }

  long playedOut(int seed) {
    argument(seed < 0 || seed > 1000000);
    state(whoJoined(owners) != NONE);
    int[] then = playOut(seed);
    long set = 0;
    for (int i = 0; i < then.length; i++) {
      set |= then[i] == 0 ? 1L << i : 0;
    }
    return set;
  }

  // ---- patterns

  int type(long characters, int n) {
    argument(n < 1 || n > 8);
    StringBuilder more = new StringBuilder();
    for (int i = 0; i < n; i++) {
      char sign = (char) (characters >>> 8 * i & 0xff);
      argument(".ox#*!|".indexOf(sign) < 0);
      more.append(sign);
    }
    state(tape.length() + n > 30);
    tape.append(more);
    return tape.length();
  }

  String tapeText() {
    return tape.toString();
  }

  int wipe() {
    int n = tape.length();
    tape.setLength(0);
    return n;
  }

  int fault() {
    Pattern whole = Pattern.compile("[.ox#*]{6}!?(\\|[.ox#*]{6}!?)*");
    for (int n = 1; n <= tape.length(); n++) {
      Matcher matcher = whole.matcher(tape.substring(0, n));
      if (!matcher.matches() && !matcher.hitEnd()) {
        return n - 1;
      }
    }
    return whole.matcher(tape).matches() ? NONE : tape.length();
  }

  int pattern() {
    argument(fault() != NONE);
    state(patterns.size() == 6);
    patterns.add(tape.toString());
    tape.setLength(0);
    return patterns.size() - 1;
  }

  long fits(int pattern, int player) {
    index(pattern < 0 || pattern >= patterns.size() || player < 0 || player > 1);
    long set = 0;
    for (int i = 0; i < owners.length; i++) {
      if (owners[i] == NONE) {
        for (String alternative : patterns.get(pattern).split("\\|")) {
          set |= alternativeFits(alternative, i, player) ? 1L << i : 0;
        }
      }
    }
    return set;
  }

  long fitsAnew(int pattern, int player) {
    return fits(pattern, player);
  }

  private boolean alternativeFits(String alternative, int cell, int player) {
    String turned = alternative.substring(0, 6);
    for (int turn = 0; turn < 6; turn++) {
      boolean all = true;
      for (int d = 0; d < 6; d++) {
        int there = next(cell, d);
        char sign = there == NONE ? '#' : owners[there] == NONE ? '.'
            : owners[there] == player ? 'o' : 'x';
        all &= turned.charAt(d) == '*' || turned.charAt(d) == sign;
      }
      if (all) {
        return true;
      }
      if (alternative.endsWith("!")) {
        return false;
      }
      turned = turned.charAt(5) + turned.substring(0, 5);
    }
    return false;
  }

  // ---- clocks, ladder

  void clocks(int seconds, int periods, int each) {
    argument(seconds < 0 || seconds > 3600 || periods < 0 || periods > 9 || each < 1 || each > 60);
    argument(seconds == 0 && periods == 0);
    state(clocked || !movedTo.isEmpty() || winner() != NONE);
    clocked = true;
    this.each = each;
    for (int player = 0; player < 2; player++) {
      this.seconds[player] = seconds;
      this.periods[player] = periods;
      used[player] = 0;
    }
  }

  int think(int thought) {
    argument(thought < 1 || thought > 600);
    state(!clocked || winner() != NONE);
    int player = turn();
    for (int second = 0; second < thought; second++) {
      if (seconds[player] > 0) {
        seconds[player]--;
      } else if (periods[player] == 0) {
        loser = player;
        used[player]++;
      } else {
        used[player]++;
        if (used[player] == each) {
          used[player] = 0;
          periods[player]--;
          loser = periods[player] == 0 ? player : loser;
        }
      }
    }
    return winner();
  }

  int clock(int player, int what) {
    index(player < 0 || player > 1);
    argument(what < 0 || what > 2);
    return what == 0 ? seconds[player] : what == 1 ? periods[player] : used[player];
  }

  int person() {
    state(ladder.size() == 10);
    int person = ladder.size();
    ladder.add(person);
    ratings[person] = 1000;
    return person;
  }

  int record(int one, int other) {
    index(one < 0 || one >= ladder.size() || other < 0 || other >= ladder.size());
    argument(one == other);
    state(winner() == NONE || recorded);
    recorded = true;
    int winner = winner() == 0 ? one : other, loser = winner() == 0 ? other : one;
    double more = (ratings[winner] - ratings[loser]) / 25.0;
    int change = (int) Math.max(1, Math.min(31, 16 - Math.floor(more)));
    ratings[winner] += change;
    ratings[loser] -= change;
    won[winner]++;
    lost[loser]++;
    int place = ladder.indexOf(loser);
    if (ladder.indexOf(winner) > place) {
      ladder.remove((Integer) winner);
      ladder.add(place, winner);
    }
    return ratings[winner];
  }

  int ofPerson(int person, int what) {
    index(person < 0 || person >= ladder.size());
    argument(what < 0 || what > 3);
    return what == 0 ? ratings[person] : what == 1 ? ladder.indexOf(person)
        : what == 2 ? won[person] : lost[person];
  }
}
