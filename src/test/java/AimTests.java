import java.util.Random;

/**
 * What the document says ahead of its promises, held on games that are really played: when all
 * cells are taken just one player has joined, and who is told to win does; links hold, whoever
 * moves first. The program alone is asked; who has joined is found by the words on goals.
 */
public final class AimTests {
  private static final int NONE = Linkcourt.NONE;
  private static final int RHOMB = Linkcourt.RHOMB, TRIANGLE = Linkcourt.TRIANGLE;
  private static final int CYLINDER = Linkcourt.CYLINDER;
  private static final int MOST_CALLS = 512;

  private final Random random;
  private final int kind, rows, columns, cells;
  private final String board;
  private final long[] around = new long[36], sides = new long[4];
  private Linkcourt court;
  private int calls;
  private long of0, of1;

  private AimTests(int kind, int rows, int columns) {
    this.kind = kind;
    this.rows = rows;
    this.columns = columns;
    board = "game(" + kind + ", " + rows + ", " + columns + ")";
    random = new Random(100 * kind + 10 * rows + columns);
    court = new Linkcourt();
    cells = (int) ask("game", kind, rows, columns);
    for (int cell = 0; cell < cells; cell++) {
      for (int direction = 0; direction < 6; direction++) {
        long next = ask("neighbour", cell, direction);
        around[cell] |= next == NONE ? 0 : 1L << next;
      }
      for (int side = 0; side < sides(); side++) {
        sides[side] |= isAt((int) ask("cell", cell, 4), (int) ask("cell", cell, 5), side)
            ? 1L << cell : 0;
      }
    }
  }

  public static void main(String[] args) {
    int games = args.length > 0 ? Integer.parseInt(args[0]) : 12;
    for (int kind = RHOMB; kind <= CYLINDER; kind++) {
      for (int rows = 2; rows <= 6; rows++) {
        for (int columns = kind == CYLINDER ? 3 : 2; columns <= 6; columns++) {
          if (kind != TRIANGLE || rows == columns) {
            new AimTests(kind, rows, columns).play(games);
          }
        }
      }
    }
    System.out.println("AimTests: " + Script.calls + " things held, " + Script.wrong
        + " not as due");
    if (Script.wrong != 0) {
      System.exit(1);
    }
  }

  private void play(int games) {
    for (int i = 0; i < games; i++) {
      justOneHasJoined();
      whoIsToldToWinDoes();
      movesThatGiveWinsAway();
      linksHold();
      deadCellsDoNotMatter();
    }
  }

  private void that(int promise, boolean holds, String what) {
    Script.that("promise " + promise + ", " + board, holds, what + ", behind " + of0 + ", " + of1);
  }

  // ---- calls, and the stones that lie by them

  /** An object is used for 512 calls, no more. */
  private long ask(String name, long... arguments) {
    calls++;
    if (calls > MOST_CALLS) {
      throw new IllegalStateException("this test makes too many calls");
    }
    return Long.parseLong(Calls.answer(court, name, arguments));
  }

  private boolean isOver() {
    return ask("told", 4) != NONE;
  }

  private long all() {
    return (1L << cells) - 1;
  }

  private long empty() {
    return all() & ~(of0 | of1);
  }

  private void move(int cell) {
    of0 |= ask("told", 1) == 0 ? 1L << cell : 0;
    of1 |= (of0 >> cell & 1) == 0 ? 1L << cell : 0;
    ask("move", cell);
  }

  private void undo(int cell) {
    of0 &= ~(1L << cell);
    of1 &= ~(1L << cell);
    ask("undo");
  }

  /** A game with moves by chance, until so many cells are empty at most; nobody has joined. */
  private boolean begun(int most) {
    court = new Linkcourt();
    calls = 0;
    of0 = 0;
    of1 = 0;
    ask("game", kind, rows, columns);
    boolean swaps = random.nextInt(3) == 0;
    for (int tries = 0; tries < 50 && Long.bitCount(empty()) > most; tries++) {
      if (swaps && Long.bitCount(of0 | of1) == 1) {
        of1 = 1L << ask("swap");
        of0 = 0;
        swaps = false;
      }
      int cell = oneOf(empty());
      move(cell);
      if (isOver()) {
        undo(cell);
      }
    }
    return Long.bitCount(empty()) <= most;
  }

  private int oneOf(long set) {
    int place = random.nextInt(Long.bitCount(set));
    for (int i = 0; i < place; i++) {
      set &= set - 1;
    }
    return Long.numberOfTrailingZeros(set);
  }

  // ---- goals, by the words of the document

  private int sides() {
    return kind == RHOMB ? 4 : kind == TRIANGLE ? 3 : 2;
  }

  private boolean isAt(int r, int c, int side) {
    switch (kind) {
      case TRIANGLE: return side == 0 ? c == 0 : side == 1 ? c == r : r == rows - 1;
      case CYLINDER: return side == 0 ? r == 0 : r == rows - 1;
      default: return side == 0 ? c == 0 : side == 1 ? c == columns - 1
          : side == 2 ? r == 0 : r == rows - 1;
    }
  }

  private boolean hasJoined(int player, long stones) {
    if (kind == TRIANGLE) {
      return hasGroupAt(stones, 0, 1, 2);
    }
    if (kind == CYLINDER) {
      return player == 0 ? hasGroupAt(stones, 0, 1) : !hasGroupAt(all() & ~stones, 0, 1);
    }
    return player == 0 ? hasGroupAt(stones, 0, 1) : hasGroupAt(stones, 2, 3);
  }

  private boolean hasGroupAt(long stones, int... wanted) {
    for (long left = stones; left != 0;) {
      long group = left & -left, before = 0;
      while (group != before) {
        before = group;
        for (int cell = 0; cell < cells; cell++) {
          group |= (before >> cell & 1) != 0 ? around[cell] & stones : 0;
        }
      }
      boolean atAll = true;
      for (int side : wanted) {
        atAll &= (group & sides[side]) != 0;
      }
      if (atAll) {
        return true;
      }
      left &= ~group;
    }
    return false;
  }

  // ---- when all cells are taken, just one player has joined

  private void justOneHasJoined() {
    if (!begun(random.nextInt(cells) + 1)) {
      return;
    }
    int seed = random.nextInt(1000001), empty = Long.bitCount(empty());
    long out = ask("playedOut", seed);
    boolean one = hasJoined(0, out), other = hasJoined(1, all() & ~out);
    that(18, one != other, "when all cells are taken just one player has joined: " + out);
    that(17, ask("plays", seed, 1) == (one ? 1 : 0), "who has joined: " + out);
    that(18, (out & of0) == of0 && (out & of1) == 0 && (out & ~all()) == 0,
        "the stones of the position stay: " + out);
    int put = Long.bitCount(out) - Long.bitCount(of0);
    that(18, put == (empty + 1 - ask("told", 1)) / 2, "the players put stones in turn: " + out);
  }

  // ---- who is told to win does

  private void whoIsToldToWinDoes() {
    if (!begun(1 + random.nextInt(9))) {
      return;
    }
    long winner = ask("best"), lasts = ask("lasts");
    boolean fewest = random.nextBoolean();
    for (long left = lasts; !isOver(); left--) {
      boolean isWinner = ask("told", 1) == winner;
      long wins = ask("wins");
      that(9, ask("best") == winner, "who is told to win does not");
      that(10, isWinner == (wins != 0), "just who wins by best play has wins");
      that(11, !fewest || ask("lasts") == left, "it lasts as long as was told: " + left);
      long choice = isWinner ? wins : empty();
      move(fewest ? lasting(choice, left - 1) : oneOf(choice));
    }
    that(9, ask("told", 4) == winner && ask("best") == winner, "who was told to win has");
    that(11, ask("lasts") == 0, "it is over");
  }

  /** A move behind which it lasts so long. */
  private int lasting(long choice, long lasts) {
    long found = 0;
    for (int cell = 0; cell < cells; cell++) {
      if ((choice >> cell & 1) != 0) {
        move(cell);
        found |= ask("lasts") == lasts ? 1L << cell : 0;
        undo(cell);
      }
    }
    that(11, found != 0, "there is a move behind which it lasts " + lasts);
    return oneOf(found == 0 ? choice : found);
  }

  private void movesThatGiveWinsAway() {
    if (!begun(1 + random.nextInt(9))) {
      return;
    }
    while (!isOver()) {
      long mover = ask("told", 1), number = ask("told", 0);
      boolean won = ask("best") == mover;
      move(oneOf(empty()));
      boolean gave = won && ask("best") != mover;
      that(15, (ask("gaveAway", number) == 1) == gave, "the move " + number + " gave a win away");
    }
  }

  // ---- links hold, whoever moves first

  private void linksHold() {
    if (!begun(1 + random.nextInt(9))) {
      return;
    }
    int player = (int) (1 - ask("told", 1));
    long stones = player == 0 ? of0 : of1;
    int one = 100 + random.nextInt(sides());
    int other = stones == 0 || random.nextInt(3) == 0 ? 100 + (one - 99) % sides() : oneOf(stones);
    long carrier = ask("carrier", player, one, other);
    that(13, carrier == NONE || (carrier & ~empty()) == 0, "a carrier's cells are empty");
    if (carrier == NONE) {
      that(14, ask("answer", player, one, other, oneOf(empty())) == NONE, "there is no link");
    } else {
      hold(player, one, other, carrier);
    }
  }

  /** The other player moves on the carrier and beside it, until the ends are joined. */
  private void hold(int player, int one, int other, long first) {
    String link = "the link of " + player + " from " + one + " to " + other;
    long carrier = first;
    while (carrier > 0) {
      int cell = oneOf(random.nextInt(4) == 0 ? empty() : carrier);
      boolean within = (carrier >> cell & 1) != 0;
      long answer = ask("answer", player, one, other, cell);
      that(14, within == (answer != NONE), link + " is answered on its carrier alone");
      move(cell);
      // a link need not win: the other player may do so by it
      if (isOver()) {
        return;
      }
      move(within ? (int) answer : oneOf(empty()));
      long next = isOver() ? 0 : ask("carrier", player, one, other);
      that(13, next != NONE, link + " holds, as it was answered");
      that(13, Long.bitCount(next) <= Long.bitCount(carrier) - (within ? 2 : 0),
          link + " has the fewest cells");
      carrier = next;
    }
    that(13, isOver() || ask("carrier", player, one, other) == 0, link + " is joined");
  }

  // ---- cells that do not matter any more

  private void deadCellsDoNotMatter() {
    if (!begun(1 + random.nextInt(9))) {
      return;
    }
    long dead = ask("dead");
    that(12, (dead & ~empty()) == 0, "dead cells are empty");
    for (int i = 0; i < 4 && dead != 0; i++) {
      long cell = 1L << oneOf(dead), filled = of0 | random.nextLong() & empty();
      that(12, hasJoined(0, filled | cell) == hasJoined(0, filled & ~cell)
          && hasJoined(1, all() & ~(filled | cell)) == hasJoined(1, all() & ~filled | cell),
          "the dead cell " + cell + " does not matter: " + filled);
    }
  }
}
