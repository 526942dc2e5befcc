import java.util.ArrayList;
import java.util.List;
import java.util.Random;

/** Long runs of calls with arguments good and bad, each answer held against the Oracle. */
public final class RandomRuns {
  private static final int CALLS = 512;
  private static final String[] EVERYTHING = {
    "game", "move", "move", "move", "move", "swap", "undo", "told", "cell", "neighbour",
    "best", "wins", "lasts", "dead", "carrier", "answer", "gaveAway", "far", "plays", "playedOut",
    "type", "wipe", "fault", "pattern", "fits", "fitsAnew",
    "clocks", "think", "clock", "person", "record", "ofPerson"
  };
  private static final String[] GAMES = {
    "game", "move", "move", "move", "move", "move", "move", "swap", "undo", "told", "cell",
    "neighbour"
  };
  private static final String[] BEST_PLAY = {
    "move", "move", "undo", "best", "wins", "lasts", "dead", "carrier", "carrier", "answer",
    "answer", "gaveAway", "told"
  };
  private static final String[] PLAYING_OUT = {
    "move", "move", "move", "undo", "swap", "far", "far", "plays", "playedOut", "playedOut"
  };
  private static final String[] PATTERNS = {
    "move", "move", "undo", "type", "type", "type", "type", "type", "type", "wipe", "fault",
    "fault", "pattern", "pattern", "fits", "fits", "fitsAnew", "fitsAnew"
  };
  private static final String[] CLOCKS = {
    "game", "clocks", "clocks", "think", "think", "think", "think", "clock", "clock", "clock",
    "move", "move", "move", "undo", "swap", "person", "record", "record", "ofPerson", "ofPerson",
    "told"
  };

  private final Random random;
  private final int seed;
  private final String[] names;
  private final Linkcourt court = new Linkcourt();
  private final Oracle oracle = new Oracle();
  private final List<String> log = new ArrayList<>();
  private static int wrong = 0;

  private RandomRuns(int seed, String[] names) {
    this.seed = seed;
    this.names = names;
    this.random = new Random(seed);
  }

  public static void main(String[] args) {
    int runs = args.length > 0 ? Integer.parseInt(args[0]) : 16;
    int first = args.length > 1 ? Integer.parseInt(args[1]) : 1;
    String[][] sets = {EVERYTHING, GAMES, BEST_PLAY, PLAYING_OUT, PATTERNS, CLOCKS};
    for (int i = 0; i < runs * sets.length && wrong == 0; i++) {
      new RandomRuns(first * 1000 + i, sets[i % sets.length]).run();
    }
    System.out.println(wrong == 0 ? "RandomRuns: all answers are as due" : "RandomRuns: wrong");
    if (wrong != 0) {
      System.exit(1);
    }
  }

  private void run() {
    while (log.size() < CALLS && wrong == 0) {
      boolean anew = random.nextInt(40) == 0 || names == BEST_PLAY && isOver();
      if (log.isEmpty() || anew && log.size() < CALLS - 2) {
        begin();
      }
      String name = names[random.nextInt(names.length)];
      if (!isDear(name) && log.size() < CALLS) {
        call(name, arguments(name));
      }
    }
  }

  private void begin() {
    int most = names == BEST_PLAY && random.nextInt(4) != 0 ? 3 : 5;
    int kind = random.nextInt(3), rows = 2 + random.nextInt(most);
    int columns = kind == 1 ? rows : (kind == 2 ? 3 : 2) + random.nextInt(most - kind / 2);
    call("game", kind, rows, columns);
    if (names == CLOCKS) {
      call("clocks", arguments("clocks"));
    }
    int moves = names == CLOCKS ? 0 : names == BEST_PLAY ? 60 : random.nextInt(37);
    for (int i = 0; i < moves && log.size() < CALLS - 2 && needsMoves(); i++) {
      call("move", emptyCell());
      // large boards are to become nearly full, and nobody to have joined
      if (names == BEST_PLAY && oracle.told(4) != -1 && random.nextInt(8) != 0) {
        call("undo");
      }
    }
  }

  private boolean isOver() {
    return oracle.told(4) != -1 && random.nextInt(4) == 0;
  }

  private boolean needsMoves() {
    return oracle.told(4) == -1 && (names != BEST_PLAY || oracle.told(2) > 5 + random.nextInt(5));
  }

  /** The Oracle tries all sets of empty cells for a link: it is asked where they are few. */
  private boolean isDear(String name) {
    int empty = oracle.told(2);
    return (name.equals("carrier") || name.equals("answer"))
        && empty > 6 && empty < 10 && random.nextInt(empty < 8 ? 2 : 30) != 0;
  }

  private void call(String name, long... arguments) {
    String due = Calls.answer(oracle, name, arguments);
    String got = Calls.answer(court, name, arguments);
    log.add(Calls.text(name, arguments) + " -> " + got);
    if (!got.equals(due)) {
      wrong++;
      System.out.println("run " + seed + ", due is " + due + " at the end of:");
      for (String line : log) {
        System.out.println("  " + line);
      }
    }
  }

  private int emptyCell() {
    List<Integer> empty = new ArrayList<>();
    for (int i = 0; i < 36; i++) {
      if (Calls.answer(oracle, "cell", i, 0).equals("-1")) {
        empty.add(i);
      }
    }
    return empty.isEmpty() ? 0 : empty.get(random.nextInt(empty.size()));
  }

  /** Mostly a number from low to high, at times one of the edges about it. */
  private long number(int low, int high) {
    switch (random.nextInt(24)) {
      case 0: return low - 1;
      case 1: return high + 1;
      case 2: return low;
      case 3: return high;
      case 4: return random.nextInt(8) == 0 ? random.nextInt() : high;
      default: return low + random.nextInt(high - low + 1);
    }
  }

  private long anyCell() {
    int cells = 0;
    while (!Calls.answer(oracle, "cell", cells, 0).startsWith("throws")) {
      cells++;
    }
    return number(0, cells - 1);
  }

  private long end(long player) {
    if (random.nextInt(2) == 0) {
      return number(100, 103);
    }
    for (int i = 0; i < 30; i++) {
      int cell = random.nextInt(36);
      if (Calls.answer(oracle, "cell", cell, 0).equals(String.valueOf(player))) {
        return cell;
      }
    }
    return anyCell();
  }

  private long[] arguments(String name) {
    switch (name) {
      case "game": return new long[] {number(0, 2), number(2, 6), number(2, 6)};
      case "move": return new long[] {random.nextInt(8) == 0 ? anyCell() : emptyCell()};
      case "told": return new long[] {number(0, 6)};
      case "cell": return new long[] {anyCell(), number(0, 6)};
      case "neighbour": return new long[] {anyCell(), number(0, 5)};
      case "carrier": case "answer": return link(name);
      case "gaveAway": return new long[] {number(0, Math.max(0, oracle.told(0) - 1))};
      case "far": return new long[] {number(0, 1)};
      case "plays": return new long[] {number(0, 1000000), number(1, 50)};
      case "playedOut": return new long[] {number(0, 1000000)};
      case "type": return typed();
      case "fits": case "fitsAnew": return new long[] {number(0, 5), number(0, 1)};
      case "clocks": return new long[] {few(60, 3600), few(3, 9), few(8, 60)};
      case "think": return new long[] {few(20, 600)};
      case "clock": return new long[] {number(0, 1), number(0, 2)};
      case "record": return new long[] {number(0, 9), number(0, 9)};
      case "ofPerson": return new long[] {number(0, 9), number(0, 3)};
      default: return new long[0];
    }
  }

  private long few(int small, int most) {
    return random.nextInt(3) == 0 ? number(0, most) : number(0, small);
  }

  private long[] link(String name) {
    long player = number(0, 1);
    long one = end(player), other = end(player);
    return name.equals("carrier") ? new long[] {player, one, other}
        : new long[] {player, one, other, random.nextInt(4) == 0 ? anyCell() : emptyCell()};
  }

  /** Mostly what lets the tape become a pattern, with more * than there would be by chance. */
  private long[] typed() {
    int n = random.nextInt(12) == 0 ? (int) number(1, 8) : 1 + random.nextInt(8);
    int had = tapeLength() - lastBar();
    int shift = 8 * Math.max(0, Math.min(7, n));
    long characters = random.nextInt(4) == 0 ? random.nextLong() << shift : 0;
    if (n > 7 || n < 0) {
      characters = 0;
    }
    for (int i = 0; i < n && i < 8; i++) {
      char sign = "..*****oxx#o".charAt(random.nextInt(12));
      if (had >= 6) {
        sign = had == 6 && random.nextInt(3) == 0 ? '!' : '|';
      }
      if (random.nextInt(40) == 0) {
        sign = ".ox#*!| O\377\0".charAt(random.nextInt(11));
      }
      had = sign == '|' ? 0 : had + 1;
      characters |= (long) sign << 8 * i;
    }
    return new long[] {characters, n};
  }

  private int tapeLength() {
    return oracle.tapeText().length();
  }

  private int lastBar() {
    return oracle.tapeText().lastIndexOf('|') + 1;
  }
}
