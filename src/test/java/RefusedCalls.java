import java.util.ArrayList;
import java.util.Arrays;
import java.util.List;

/**
 * In many positions each call with arguments about all its bounds: what is refused throws the
 * exception that is named first of those that apply, and changes nothing; what is asked changes
 * nothing either. What is due is the Oracle's.
 */
public final class RefusedCalls {
  private static final int LEAST = Integer.MIN_VALUE, MOST = Integer.MAX_VALUE;
  /** So many calls are made on one object, so that there is room to ask it all things then. */
  private static final int BATCH = 250;
  private static final int[] PLAYERS = {LEAST, -1, 0, 1, 2, MOST};
  private static final int[] CELLS = {LEAST, -1, 0, 1, 2, 3, 4, 5, 6, 8, 9, 10, 20, 21, 35, 36, 64,
      MOST};
  private static final int[] ENDS = {LEAST, -1, 0, 1, 3, 4, 9, 35, 36, 99, 100, 101, 102, 103,
      104, MOST};
  private static final int[] SEEDS = {LEAST, -1, 0, 1, 1000000, 1000001, MOST};
  private static final int[] TENS = {LEAST, -1, 0, 1, 2, 3, 9, 10, MOST};
  private static final int[] WHATS = {LEAST, -1, 0, 1, 2, 3, 4, 5, 6, 7, MOST};
  private static final int[] SIGNS = {0, 32, '.', 'o' | '.' << 8, '|', 'a', 'X', 255, -1};

  /** Positions that are empty, full, over, lost, recorded, and between. */
  private static final String[] POSITIONS = {
    "",
    "tape(..####!)= pattern()= person()= person()= tape(......!|)= clocks(9,2,5)= think(11)="
        + " move(1)= think(3)=",
    "person()= person()= clocks(9,2,5)= move(1)= swap()= think(10)= tape(*****)=",
    "person()= person()= move(0)= move(3)= move(1)=",
    "person()= person()= person()= move(0)= move(1)= move(3)= move(2)= record(2,1)=",
    "person()= person()= clocks(1,0,1)= think(2)=",
    "person()= person()= clocks(0,2,5)= move(0)= think(4)= undo()= move(1)= think(9)= record(1,0)=",
    "tape(......)= pattern()= tape(******)= pattern()= tape(oooooo)= pattern()= tape(xxxxxx)="
        + " pattern()= tape(######)= pattern()= tape(..####|...###)= pattern()="
        + " tape(..####!|###..#!|...###!|......)= person()= person()= person()= person()="
        + " person()= person()= person()= person()= person()= person()= move(0)= move(3)=",
    "tape(......|......|......|......|.!)= game(2,2,5)= person()=",
    "game(2,3,3)= move(0)= move(3)= move(1)= move(4)= undo()= tape(.)=",
    "game(1,4,4)= move(4)= swap()= move(0)= move(3)= undo()=",
    "game(1,6,6)= move(4)= move(7)=",
    "game(0,6,6)= move(5)= swap()= move(5)= clocks(1,1,1)=",
    "game(2,6,6)= clocks(600,9,60)= think(599)= move(35)= think(600)= think(30)=",
    "game(1,2,2)= person()= person()= move(0)= swap()= move(1)= move(2)="
  };

  private static int wrong = 0, refused = 0, asked = 0;
  private final List<String> setup = new ArrayList<>();
  private Oracle oracle;

  private RefusedCalls(String position) {
    for (String call : position.split(" ")) {
      if (!call.isEmpty()) {
        setup.add(call.substring(0, call.length() - 1));
      }
    }
  }

  public static void main(String[] args) {
    for (String position : POSITIONS) {
      new RefusedCalls(position).all();
    }
    System.out.println("RefusedCalls: " + refused + " refused and " + asked + " asked in "
        + POSITIONS.length + " positions, " + wrong + " not as due");
    if (wrong != 0) {
      System.exit(1);
    }
  }

  private void all() {
    tryAll("game", false, PLAYERS, WHATS, WHATS);
    tryAll("move", false, CELLS);
    for (String name : new String[] {"swap", "undo", "wipe", "pattern", "person"}) {
      tryAll(name, false);
    }
    for (String name : new String[] {"best", "wins", "lasts", "dead", "fault"}) {
      tryAll(name, true);
    }
    tryAll("told", true, WHATS);
    tryAll("cell", true, CELLS, WHATS);
    tryAll("neighbour", true, CELLS, WHATS);
    tryAll("carrier", true, PLAYERS, ENDS, ENDS);
    tryAll("answer", true, PLAYERS, new int[] {-1, 0, 1, 100, 101, 104},
        new int[] {-1, 1, 3, 100, 102}, new int[] {LEAST, -1, 0, 2, 3, 36, MOST});
    tryAll("gaveAway", true, CELLS);
    tryAll("far", true, PLAYERS);
    tryAll("plays", true, SEEDS, new int[] {LEAST, -1, 0, 1, 50, 51, MOST});
    tryAll("playedOut", true, SEEDS);
    tryAll("type", false, SIGNS, new int[] {LEAST, -1, 0, 1, 2, 7, 8, 9, MOST});
    tryAll("fits", true, TENS, PLAYERS);
    tryAll("fitsAnew", true, new int[] {LEAST, -1, 0, 1, 5, 6, 7, MOST}, PLAYERS);
    tryAll("clocks", false, new int[] {LEAST, -1, 0, 1, 3600, 3601, MOST},
        new int[] {LEAST, -1, 0, 1, 9, 10, MOST}, new int[] {LEAST, -1, 0, 1, 60, 61, MOST});
    tryAll("think", false, new int[] {LEAST, -1, 0, 1, 600, 601, MOST});
    tryAll("clock", true, PLAYERS, WHATS);
    tryAll("record", false, TENS, TENS);
    tryAll("ofPerson", true, TENS, WHATS);
  }

  /** All arguments of these bounds; what is asked and answered is held against the Oracle too. */
  private void tryAll(String name, boolean asks, int[]... bounds) {
    List<String> refusals = new ArrayList<>(), dues = new ArrayList<>();
    List<String> answered = new ArrayList<>(), answers = new ArrayList<>();
    oracle = null;
    for (String call : product(name, bounds)) {
      oracle = oracle == null ? replayed(new Oracle(), setup) : oracle;
      String due = Script.perform(oracle, call);
      if (due.startsWith("throws.")) {
        refusals.add(call);
        dues.add(due);
      } else if (asks) {
        answered.add(call);
        answers.add(due);
      } else {
        oracle = null;
      }
    }
    refused += refusals.size();
    asked += answered.size();
    checkAll(refusals, dues);
    checkAll(answered, answers);
  }

  private static List<String> product(String name, int[]... bounds) {
    List<String> calls = new ArrayList<>(Arrays.asList(name + "("));
    for (int i = 0; i < bounds.length; i++) {
      List<String> longer = new ArrayList<>();
      for (String call : calls) {
        for (int bound : bounds[i]) {
          longer.add(call + (i == 0 ? "" : ",") + bound);
        }
      }
      calls = longer;
    }
    for (int i = 0; i < calls.size(); i++) {
      calls.set(i, calls.get(i) + ")");
    }
    return calls;
  }

  private static <T> T replayed(T court, List<String> calls) {
    for (String call : calls) {
      Script.perform(court, call);
    }
    return court;
  }

  private void checkAll(List<String> calls, List<String> dues) {
    for (int from = 0; from < calls.size(); from += BATCH) {
      int until = Math.min(calls.size(), from + BATCH);
      Linkcourt court = replayed(new Linkcourt(), setup);
      List<String> made = new ArrayList<>(setup);
      for (int i = from; i < until; i++) {
        String got = Script.perform(court, calls.get(i));
        that(got.equals(dues.get(i)), calls.get(i) + " answered " + got + ", due is "
            + dues.get(i));
        made.add(calls.get(i));
      }
      int count = made.size() + 30;
      String with = Everything.of(made, count), without = Everything.of(setup, count);
      that(with.equals(without), "from " + calls.get(from) + " to " + calls.get(until - 1)
          + " something is changed: " + Everything.firstOther(with, without));
    }
  }

  private void that(boolean holds, String what) {
    if (!holds) {
      wrong++;
      System.out.println("behind " + setup + " " + what);
    }
  }
}
