import java.util.Arrays;

/** A court of games in which somebody has to join; ../shared/DOC.md says what each call promises. */
public final class Linkcourt {
  public static final int NONE = -1;
  public static final int RHOMB = 0, TRIANGLE = 1, CYLINDER = 2;

  private static final int DIRECTIONS = 6;
  private static final int MOST_CELLS = 36;
  private static final int MOST_SIDES = 4;
  private static final int FIRST_SIDE = 100;
  private static final int MOST_GAPS = 9;
  private static final int MOST_SEED = 1000000;
  // what a row of things that are found out once holds of each of them
  private static final int UNKNOWN = 0, NO = 1, YES = 2;

  private final Board board;
  private final Play play;
  private final BestPlay bestPlay;
  private final Links links;
  private final Ways ways;
  private final PlayingOut playingOut;
  private final Patterns patterns;
  private final Times times;
  private final Ladder ladder;
  private boolean recorded;

  public Linkcourt() {
    Board first = new Board();
    first.lay(RHOMB, 2, 2);
    Play empty = new Play(first);
    empty.begin();
    board = first;
    play = empty;
    bestPlay = new BestPlay(first);
    links = new Links(first);
    ways = new Ways(first);
    playingOut = new PlayingOut(first);
    patterns = new Patterns(first);
    times = new Times();
    ladder = new Ladder();
  }

  // ---- games

  public int game(int kind, int rows, int columns) throws IllegalArgumentException {
    if (!isBoard(kind, rows, columns)) {
      throw new IllegalArgumentException("there is no such board");
    }
    board.lay(kind, rows, columns);
    play.begin();
    bestPlay.forget();
    times.takeAway();
    recorded = false;
    return board.cells;
  }

  public int move(int cell) throws IndexOutOfBoundsException, IllegalArgumentException,
      IllegalStateException {
    if (!board.hasCell(cell)) {
      throw new IndexOutOfBoundsException("there is no such cell");
    }
    if (!has(play.empty(), cell)) {
      throw new IllegalArgumentException("the cell is not empty");
    }
    if (winner() != NONE) {
      throw new IllegalStateException("the game is over");
    }
    times.giveBack(play.mover());
    play.put(cell);
    return winner();
  }

  public int swap() throws IllegalStateException {
    if (winner() != NONE || play.made != 1) {
      throw new IllegalStateException("it is not the second move of a game that goes on");
    }
    times.giveBack(play.mover());
    return play.exchange();
  }

  public int undo() throws IllegalStateException {
    if (play.made == 0 || times.loser != NONE || recorded) {
      throw new IllegalStateException("no move can be taken back");
    }
    play.takeBack();
    return play.made;
  }

  public int told(int what) throws IllegalArgumentException {
    switch (what) {
      case 0:
        return play.made;
      case 1:
        return play.mover();
      case 2:
        return Long.bitCount(play.empty());
      case 3:
        return play.joined;
      case 4:
        return winner();
      case 5:
        return board.groups(play.stones0);
      case 6:
        return board.groups(play.stones1);
      default:
        throw new IllegalArgumentException("what is out of range");
    }
  }

  public int cell(int cell, int what) throws IndexOutOfBoundsException, IllegalArgumentException {
    if (!board.hasCell(cell)) {
      throw new IndexOutOfBoundsException("there is no such cell");
    }
    if (what < 0 || what > 6) {
      throw new IllegalArgumentException("what is out of range");
    }
    if (what == 4) {
      return board.row(cell);
    }
    if (what == 5) {
      return board.column(cell);
    }
    int owner = play.owner(cell);
    if (owner == NONE || what == 0) {
      return owner;
    }
    if (what == 6) {
      return play.numberOf(cell);
    }
    long group = board.reach(1L << cell, play.stones(owner));
    return what == 1 ? Long.bitCount(group) : what == 2 ? board.sidesOf(group) : lowest(group);
  }

  public int neighbour(int cell, int direction) throws IndexOutOfBoundsException,
      IllegalArgumentException {
    if (!board.hasCell(cell)) {
      throw new IndexOutOfBoundsException("there is no such cell");
    }
    if (direction < 0 || direction >= DIRECTIONS) {
      throw new IllegalArgumentException("direction is out of range");
    }
    return board.next(cell, direction);
  }

  // ---- best play; IllegalState if more than 9 cells are empty

  public int best() throws IllegalStateException {
    needFewGaps();
    return bestPlay.winnerOf(play.stones0, play.stones1, play.mover());
  }

  public long wins() throws IllegalStateException {
    needFewGaps();
    return bestPlay.winsOf(play.stones0, play.stones1, play.mover());
  }

  public int lasts() throws IllegalStateException {
    needFewGaps();
    return bestPlay.lengthOf(play.stones0, play.stones1, play.mover());
  }

  public long dead() throws IllegalStateException {
    needFewGaps();
    return bestPlay.deadOf(play.stones0, play.stones1, play.mover());
  }

  public long carrier(int player, int one, int other) throws IndexOutOfBoundsException,
      IllegalArgumentException, IllegalStateException {
    needLink(player, one, other);
    return links.carrierOf(play.stones(player), play.empty(), one, other);
  }

  public int answer(int player, int one, int other, int cell) throws IndexOutOfBoundsException,
      IllegalArgumentException, IllegalStateException {
    if (!board.hasCell(cell)) {
      throw new IndexOutOfBoundsException("there is no such cell");
    }
    needLink(player, one, other);
    long carrier = links.carrierOf(play.stones(player), play.empty(), one, other);
    return carrier == NONE || !has(carrier, cell) ? NONE : links.answerIn(carrier, cell);
  }

  public boolean gaveAway(int number) throws IndexOutOfBoundsException, IllegalArgumentException,
      IllegalStateException {
    if (number < 0 || number >= play.made) {
      throw new IndexOutOfBoundsException("there is no such move");
    }
    if (number == 1 && play.swapped) {
      throw new IllegalArgumentException("that move is the swap");
    }
    long ahead0 = play.stonesAhead(number, 0);
    long ahead1 = play.stonesAhead(number, 1);
    if (board.cells - Long.bitCount(ahead0 | ahead1) > MOST_GAPS) {
      throw new IllegalStateException("more than 9 cells were empty");
    }
    int mover = number & 1;
    if (bestPlay.winnerOf(ahead0, ahead1, mover) != mover) {
      return false;
    }
    long behind0 = play.stonesAhead(number + 1, 0);
    long behind1 = play.stonesAhead(number + 1, 1);
    return bestPlay.winnerOf(behind0, behind1, 1 - mover) != mover;
  }

  // ---- far, playing out

  public int far(int player) throws IndexOutOfBoundsException, IllegalStateException {
    if (!isPlayer(player)) {
      throw new IndexOutOfBoundsException("there is no such player");
    }
    if (player == 1 && board.kind == CYLINDER) {
      throw new IllegalStateException("the player 1 closes a ring there");
    }
    return ways.fewest(player, play.stones(player), play.empty());
  }

  public int plays(int seed, int times) throws IllegalArgumentException, IllegalStateException {
    if (seed < 0 || seed > MOST_SEED || times < 1 || times > 50) {
      throw new IllegalArgumentException("seed or times is out of range");
    }
    if (play.joined != NONE) {
      throw new IllegalStateException("somebody has joined");
    }
    int joinedBy0 = 0;
    for (int i = 0; i < times; i++) {
      if (board.hasJoined(0, playedOutFrom(seed + i))) {
        joinedBy0++;
      }
    }
    return joinedBy0;
  }

  public long playedOut(int seed) throws IllegalArgumentException, IllegalStateException {
    if (seed < 0 || seed > MOST_SEED) {
      throw new IllegalArgumentException("seed is out of range");
    }
    if (play.joined != NONE) {
      throw new IllegalStateException("somebody has joined");
    }
    return playedOutFrom(seed);
  }

  // ---- patterns

  public int type(long characters, int n) throws IllegalArgumentException, IllegalStateException {
    if (n < 1 || n > 8 || !patterns.canType(characters, n)) {
      throw new IllegalArgumentException("these are no characters of the tape");
    }
    if (patterns.taped + n > Patterns.TAPE) {
      throw new IllegalStateException("the tape would be too long");
    }
    patterns.append(characters, n);
    return patterns.taped;
  }

  public int wipe() {
    int taped = patterns.taped;
    patterns.taped = 0;
    return taped;
  }

  public int fault() {
    return patterns.firstFault();
  }

  public int pattern() throws IllegalArgumentException, IllegalStateException {
    if (patterns.firstFault() != NONE) {
      throw new IllegalArgumentException("the tape is no pattern");
    }
    if (patterns.count >= Patterns.MOST) {
      throw new IllegalStateException("there are 6 patterns");
    }
    return patterns.keep();
  }

  public long fits(int pattern, int player) throws IndexOutOfBoundsException {
    if (!patterns.hasPattern(pattern) || !isPlayer(player)) {
      throw new IndexOutOfBoundsException("there is no such pattern or player");
    }
    return patterns.placesByRows(pattern, play.stones(player), play.stones(1 - player));
  }

  public long fitsAnew(int pattern, int player) throws IndexOutOfBoundsException {
    if (!patterns.hasPattern(pattern) || !isPlayer(player)) {
      throw new IndexOutOfBoundsException("there is no such pattern or player");
    }
    return patterns.placesByText(pattern, play.stones(player), play.stones(1 - player));
  }

  // ---- clocks, ladder

  public void clocks(int seconds, int periods, int each) throws IllegalArgumentException,
      IllegalStateException {
    if (seconds < 0 || seconds > 3600 || periods < 0 || periods > 9 || each < 1 || each > 60
        || seconds + periods == 0) {
      throw new IllegalArgumentException("there are no such clocks");
    }
    if (times.ticking || play.made > 0 || winner() != NONE) {
      throw new IllegalStateException("it is too late for clocks");
    }
    times.start(seconds, periods, each);
  }

  public int think(int seconds) throws IllegalArgumentException, IllegalStateException {
    if (seconds < 1 || seconds > 600) {
      throw new IllegalArgumentException("seconds is out of range");
    }
    if (!times.ticking || winner() != NONE) {
      throw new IllegalStateException("no clock ticks");
    }
    times.spend(play.mover(), seconds);
    return winner();
  }

  public int clock(int player, int what) throws IndexOutOfBoundsException,
      IllegalArgumentException {
    if (!isPlayer(player)) {
      throw new IndexOutOfBoundsException("there is no such player");
    }
    if (what < 0 || what > 2) {
      throw new IllegalArgumentException("what is out of range");
    }
    return times.shown(player, what);
  }

  public int person() throws IllegalStateException {
    if (ladder.count >= Ladder.MOST) {
      throw new IllegalStateException("there are 10 persons");
    }
    return ladder.takeOn();
  }

  public int record(int one, int other) throws IndexOutOfBoundsException,
      IllegalArgumentException, IllegalStateException {
    if (!ladder.hasPerson(one) || !ladder.hasPerson(other)) {
      throw new IndexOutOfBoundsException("there is no such person");
    }
    if (one == other) {
      throw new IllegalArgumentException("both persons are the same");
    }
    int winner = winner();
    if (winner == NONE || recorded) {
      throw new IllegalStateException("the game goes on, or was recorded");
    }
    recorded = true;
    return winner == 0 ? ladder.enter(one, other) : ladder.enter(other, one);
  }

  public int ofPerson(int person, int what) throws IndexOutOfBoundsException,
      IllegalArgumentException {
    if (!ladder.hasPerson(person)) {
      throw new IndexOutOfBoundsException("there is no such person");
    }
    if (what < 0 || what > 3) {
      throw new IllegalArgumentException("what is out of range");
    }
    return ladder.shown(person, what);
  }

  // ---- what several calls need

  private static boolean isBoard(int kind, int rows, int columns) {
    if (kind < RHOMB || kind > CYLINDER || rows < 2 || rows > 6) {
      return false;
    }
    return kind == TRIANGLE
        ? columns == rows
        : columns >= (kind == CYLINDER ? 3 : 2) && columns <= 6;
  }

  private static boolean isPlayer(int player) {
    return player == 0 || player == 1;
  }

  private static boolean has(long set, int cell) {
    return (set >> cell & 1L) != 0;
  }

  /** The lowest cell of a set that is not empty; 64 of an empty one. */
  private static int lowest(long set) {
    return Long.bitCount((set & -set) - 1);
  }

  private int winner() {
    return times.loser != NONE ? 1 - times.loser : play.joined;
  }

  private void needFewGaps() {
    if (Long.bitCount(play.empty()) > MOST_GAPS) {
      throw new IllegalStateException("more than 9 cells are empty");
    }
  }

  private void needLink(int player, int one, int other) {
    if (!isPlayer(player) || !board.hasEnd(one) || !board.hasEnd(other)) {
      throw new IndexOutOfBoundsException("there is no such player, cell or side");
    }
    if (one == other || !isEndOf(player, one) || !isEndOf(player, other)) {
      throw new IllegalArgumentException("these are no two ends of that player");
    }
    needFewGaps();
  }

  private boolean isEndOf(int player, int end) {
    return end >= FIRST_SIDE || has(play.stones(player), end);
  }

  private long playedOutFrom(int seed) {
    return playingOut.stonesOf0(play.stones0, play.stones1, play.mover(), seed);
  }

  /** The cells of a board, their neighbours and the sides. */
  private static final class Board {
    private static final int[] ROW_STEPS = {0, 1, 1, 0, -1, -1};
    private static final int[] COLUMN_STEPS = {1, 0, -1, -1, 0, 1};
    private static final int[] TRIANGLE_COLUMN_STEPS = {1, 1, 0, -1, -1, 0};

    private final int[] rowOf = new int[MOST_CELLS];
    private final int[] columnOf = new int[MOST_CELLS];
    private final int[] nextOf = new int[MOST_CELLS * DIRECTIONS];
    private final long[] aroundOf = new long[MOST_CELLS];
    private final long[] sideOf = new long[MOST_SIDES];
    private int rows;
    private int columns;
    int kind;
    int cells;
    int sides;
    long all;

    void lay(int newKind, int newRows, int newColumns) {
      kind = newKind;
      rows = newRows;
      columns = newColumns;
      sides = kind == RHOMB ? 4 : kind == TRIANGLE ? 3 : 2;
      numberCells();
      all = (1L << cells) - 1;
      meetNeighbours();
      findSides();
    }

    private void numberCells() {
      int cell = 0;
      for (int row = 0; row < rows; row++) {
        int width = kind == TRIANGLE ? row + 1 : columns;
        for (int column = 0; column < width && cell < MOST_CELLS; column++) {
          rowOf[cell] = row;
          columnOf[cell] = column;
          cell++;
        }
      }
      cells = cell;
    }

    private void meetNeighbours() {
      for (int cell = 0; cell < cells && cell < MOST_CELLS; cell++) {
        long around = 0;
        for (int direction = 0; direction < DIRECTIONS; direction++) {
          int step = kind == TRIANGLE ? TRIANGLE_COLUMN_STEPS[direction] : COLUMN_STEPS[direction];
          int next = at(rowOf[cell] + ROW_STEPS[direction], columnOf[cell] + step);
          nextOf[cell * DIRECTIONS + direction] = next;
          around |= next == NONE ? 0 : 1L << next;
        }
        aroundOf[cell] = around;
      }
    }

    private void findSides() {
      for (int side = 0; side < MOST_SIDES; side++) {
        long set = 0;
        for (int cell = 0; cell < cells; cell++) {
          set |= side < sides && isAt(cell, side) ? 1L << cell : 0;
        }
        sideOf[side] = set;
      }
    }

    private int at(int row, int column) {
      if (row < 0 || row >= rows) {
        return NONE;
      }
      if (kind == TRIANGLE) {
        return column < 0 || column > row ? NONE : row * (row + 1) / 2 + column;
      }
      if (kind == CYLINDER) {
        return row * columns + (column < 0 ? columns - 1 : column >= columns ? 0 : column);
      }
      return column < 0 || column >= columns ? NONE : row * columns + column;
    }

    private boolean isAt(int cell, int side) {
      boolean first = row(cell) == 0;
      boolean last = row(cell) == rows - 1;
      boolean left = column(cell) == 0;
      switch (kind) {
        case TRIANGLE:
          return side == 0 ? left : side == 1 ? column(cell) == row(cell) : last;
        case CYLINDER:
          return side == 0 ? first : last;
        default:
          return side == 0 ? left : side == 1 ? column(cell) == columns - 1
              : side == 2 ? first : last;
      }
    }

    boolean hasCell(int cell) {
      return cell >= 0 && cell < cells && cell < MOST_CELLS;
    }

    boolean hasEnd(int end) {
      return hasCell(end) || end >= FIRST_SIDE && end < FIRST_SIDE + sides;
    }

    int row(int cell) {
      return cell < 0 || cell >= MOST_CELLS ? NONE : rowOf[cell];
    }

    int column(int cell) {
      return cell < 0 || cell >= MOST_CELLS ? NONE : columnOf[cell];
    }

    int next(int cell, int direction) {
      return hasCell(cell) && direction >= 0 && direction < DIRECTIONS
          ? nextOf[cell * DIRECTIONS + direction] : NONE;
    }

    long around(int cell) {
      return cell < 0 || cell >= MOST_CELLS ? 0 : aroundOf[cell];
    }

    long side(int side) {
      return side >= 0 && side < MOST_SIDES ? sideOf[side] : 0;
    }

    /** Where a stone lies behind a swap. */
    int exchanged(int cell) {
      return kind == RHOMB && rows == columns ? at(column(cell), row(cell)) : cell;
    }

    /** The cells within a set that hang together there with some of another one. */
    long reach(long from, long within) {
      long seen = from & within & all;
      long edge = seen;
      for (int i = 0; i < MOST_CELLS && edge != 0; i++) {
        int cell = Long.bitCount((edge & -edge) - 1);
        long fresh = cell < MOST_CELLS ? aroundOf[cell] & within & ~seen : 0;
        seen |= fresh;
        edge = edge & (edge - 1) | fresh;
      }
      return seen;
    }

    int groups(long stones) {
      int groups = 0;
      for (long left = stones; left != 0 && groups < MOST_CELLS; groups++) {
        left &= ~reach(left & -left, stones);
      }
      return groups;
    }

    int sidesOf(long group) {
      int bits = 0;
      for (int side = 0; side < sides; side++) {
        bits |= (group & side(side)) != 0 ? 1 << side : 0;
      }
      return bits;
    }

    /** Only the player's own stones matter: on a CYLINDER the player 1 needs no group. */
    boolean hasJoined(int player, long stones) {
      if (kind == TRIANGLE) {
        return isAtAllSides(stones);
      }
      if (kind == CYLINDER && player == 1) {
        return !leads(0, 1, all & ~stones);
      }
      return player == 0 ? leads(0, 1, stones) : leads(2, 3, stones);
    }

    private boolean leads(int one, int other, long over) {
      return (reach(side(one), over) & side(other)) != 0;
    }

    private boolean isAtAllSides(long stones) {
      long left = stones & side(0);
      for (int i = 0; i < MOST_CELLS && left != 0; i++) {
        long group = reach(left & -left, stones);
        if ((group & side(1)) != 0 && (group & side(2)) != 0) {
          return true;
        }
        left &= ~group;
      }
      return false;
    }
  }

  /** The moves of a game, and the stones that lie by them. */
  private static final class Play {
    private final Board board;
    // a swap is a move without a new stone, so there is one move more than cells at most
    private final int[] log = new int[MOST_CELLS + 1];
    int made;
    boolean swapped;
    long stones0;
    long stones1;
    int joined = NONE;

    Play(Board board) {
      this.board = board;
    }

    void begin() {
      made = 0;
      swapped = false;
      settle();
    }

    void put(int cell) {
      if (made >= 0 && made < log.length) {
        log[made] = cell;
        made++;
      }
      settle();
    }

    int exchange() {
      int cell = board.exchanged(log[0]);
      swapped = true;
      put(cell);
      return cell;
    }

    void takeBack() {
      made--;
      swapped = swapped && made > 1;
      settle();
    }

    private void settle() {
      stones0 = stonesAhead(made, 0);
      stones1 = stonesAhead(made, 1);
      joined = board.hasJoined(0, stones0) ? 0 : board.hasJoined(1, stones1) ? 1 : NONE;
    }

    /** The stones of a player as they lay ahead of a move. */
    long stonesAhead(int number, int player) {
      long stones = 0;
      for (int i = firstKept(number); i < number && i < log.length; i++) {
        stones |= (i & 1) == player ? 1L << log[i] : 0;
      }
      return stones;
    }

    /** Behind a swap the stone of the first move lies as that of the second one. */
    private int firstKept(int number) {
      return swapped && number > 1 ? 1 : 0;
    }

    /** The number of the move by which a cell has its stone. */
    int numberOf(int cell) {
      for (int i = firstKept(made); i < made && i < log.length; i++) {
        if (log[i] == cell) {
          return i;
        }
      }
      return NONE;
    }

    int mover() {
      return made & 1;
    }

    long stones(int player) {
      return player == 0 ? stones0 : stones1;
    }

    long empty() {
      return board.all & ~(stones0 | stones1);
    }

    int owner(int cell) {
      return has(stones0, cell) ? 0 : has(stones1, cell) ? 1 : NONE;
    }
  }

  /** The empty cells of a position, numbered by themselves, so that their sets are small numbers. */
  private static final class Gaps {
    static final int SETS = 1 << MOST_GAPS;
    static final int PAIRS = 19683;

    private final int[] cellOf = new int[MOST_GAPS];
    private final int[] ternary = new int[SETS];
    int count;

    Gaps() {
      for (int set = 1; set < SETS; set++) {
        ternary[set] = 3 * ternary[set >> 1] + (set & 1);
      }
    }

    void take(long empty) {
      count = 0;
      for (int cell = 0; cell < MOST_CELLS && count < MOST_GAPS; cell++) {
        if (has(empty, cell)) {
          cellOf[count] = cell;
          count++;
        }
      }
    }

    int full() {
      return (1 << count) - 1;
    }

    int cellAt(int gap) {
      return gap >= 0 && gap < count && gap < MOST_GAPS ? cellOf[gap] : NONE;
    }

    /** The set of the cells, as the face tells it. */
    long spread(int set) {
      long cells = 0;
      for (int gap = 0; gap < count && gap < MOST_GAPS; gap++) {
        cells |= has(set, gap) ? 1L << cellOf[gap] : 0;
      }
      return cells;
    }

    int gather(long cells) {
      int set = 0;
      for (int gap = 0; gap < count && gap < MOST_GAPS; gap++) {
        set |= has(cells, cellOf[gap]) ? 1 << gap : 0;
      }
      return set;
    }

    /** A number of its own, below PAIRS, for each two sets without a common element. */
    int pair(int one, int other) {
      if (one < 0 || one >= SETS || other < 0 || other >= SETS || (one & other) != 0) {
        return NONE;
      }
      return ternary[one] + 2 * ternary[other];
    }
  }

  /** Who wins by best play, in how many moves, and which cells are dead. */
  private static final class BestPlay {
    // a score is AT_ONCE less the moves until one has joined, below 0 if that is not the mover
    private static final int AT_ONCE = 100;

    private final Board board;
    private final Gaps gaps = new Gaps();
    private final byte[] joined = new byte[2 * Gaps.SETS];
    private final byte[] scores = new byte[Gaps.PAIRS];
    private boolean known;
    private long stones0;
    private long stones1;
    private int turn;

    BestPlay(Board board) {
      this.board = board;
    }

    /** Called when another board is laid: what was found is true of one board alone. */
    void forget() {
      known = false;
    }

    int winnerOf(long of0, long of1, int mover) {
      take(of0, of1, mover);
      int already = joinedAlready();
      return already != NONE ? already : score(0, 0, turn, 0) > 0 ? turn : 1 - turn;
    }

    int lengthOf(long of0, long of1, int mover) {
      take(of0, of1, mover);
      return joinedAlready() != NONE ? 0 : AT_ONCE - Math.abs(score(0, 0, turn, 0));
    }

    long winsOf(long of0, long of1, int mover) {
      take(of0, of1, mover);
      if (joinedAlready() != NONE) {
        return 0;
      }
      int wins = 0;
      for (int gap = 0; gap < gaps.count; gap++) {
        wins |= scoreBehind(1 << gap, 0, turn, 0) > 0 ? 1 << gap : 0;
      }
      return gaps.spread(wins);
    }

    /** Asks of the player 0 alone: on a full board the other one has joined if it has not. */
    long deadOf(long of0, long of1, int mover) {
      take(of0, of1, mover);
      int alive = 0;
      int full = gaps.full();
      for (int set = 0; set <= full && set < Gaps.SETS; set++) {
        for (int gap = 0; gap < gaps.count; gap++) {
          if (!has(alive, gap) && !has(set, gap) && joins(0, set) != joins(0, set | 1 << gap)) {
            alive |= 1 << gap;
          }
        }
      }
      return gaps.spread(full & ~alive);
    }

    private void take(long of0, long of1, int mover) {
      if (known && stones0 == of0 && stones1 == of1 && turn == mover) {
        return;
      }
      known = true;
      stones0 = of0;
      stones1 = of1;
      turn = mover;
      gaps.take(board.all & ~(of0 | of1));
      Arrays.fill(joined, (byte) UNKNOWN);
      Arrays.fill(scores, (byte) UNKNOWN);
    }

    private int joinedAlready() {
      return joins(0, 0) ? 0 : joins(1, 0) ? 1 : NONE;
    }

    /** Whether a player has joined with its stones and more of them on some gaps. */
    private boolean joins(int player, int gapSet) {
      int at = player * Gaps.SETS + gapSet;
      if (at < 0 || at >= joined.length) {
        return false;
      }
      if (joined[at] == UNKNOWN) {
        long stones = (player == 0 ? stones0 : stones1) | gaps.spread(gapSet);
        joined[at] = (byte) (board.hasJoined(player, stones) ? YES : NO);
      }
      return joined[at] == YES;
    }

    /** The score of the mover, who has put stones on the gaps mine; nobody has joined. */
    private int score(int mine, int theirs, int mover, int depth) {
      int at = mover == 0 ? gaps.pair(mine, theirs) : gaps.pair(theirs, mine);
      if (at < 0 || at >= scores.length || depth > MOST_GAPS) {
        return -AT_ONCE;
      }
      if (scores[at] != UNKNOWN) {
        return scores[at];
      }
      int free = gaps.full() & ~(mine | theirs);
      int top = -AT_ONCE;
      for (int gap = 0; gap < gaps.count && top < AT_ONCE - 1; gap++) {
        top = has(free, gap) && joins(mover, mine | 1 << gap) ? AT_ONCE - 1 : top;
      }
      // who cannot join at once wins with the third move at best
      for (int gap = 0; gap < gaps.count && top < AT_ONCE - 3; gap++) {
        if (has(free, gap)) {
          top = Math.max(top, scoreBehind(mine | 1 << gap, theirs, mover, depth));
        }
      }
      scores[at] = (byte) top;
      return top;
    }

    /** The score of who has just moved; each move more brings it nearer to 0. */
    private int scoreBehind(int mine, int theirs, int mover, int depth) {
      if (joins(mover, mine)) {
        return AT_ONCE - 1;
      }
      int reply = score(theirs, mine, 1 - mover, depth + 1);
      return reply > 0 ? 1 - reply : -1 - reply;
    }
  }

  /** Links that hold against whoever moves first. */
  private static final class Links {
    private final Board board;
    private final Gaps gaps = new Gaps();
    private final byte[] tied = new byte[Gaps.SETS];
    private final byte[] held = new byte[Gaps.PAIRS];
    private long stones;
    private int one;
    private int other;

    Links(Board board) {
      this.board = board;
    }

    long carrierOf(long ownStones, long empty, int oneEnd, int otherEnd) {
      stones = ownStones;
      one = oneEnd;
      other = otherEnd;
      gaps.take(empty);
      Arrays.fill(tied, (byte) UNKNOWN);
      Arrays.fill(held, (byte) UNKNOWN);
      int full = gaps.full();
      // a cell more in a set never hurts the link: if all of them do not carry it, none do
      if (!holds(0, full, 0)) {
        return NONE;
      }
      for (int size = 0; size <= gaps.count; size++) {
        for (int set = 0; set <= full && set < Gaps.SETS; set++) {
          if (Integer.bitCount(set) == size && holds(0, set, 0)) {
            return gaps.spread(set);
          }
        }
      }
      return NONE;
    }

    /** The answer to a cell of the carrier that carrierOf told last. */
    int answerIn(long carrier, int cell) {
      int rest = gaps.gather(carrier & ~(1L << cell));
      for (int gap = 0; gap < gaps.count; gap++) {
        if (has(rest, gap) && holds(1 << gap, rest & ~(1 << gap), 0)) {
          return gaps.cellAt(gap);
        }
      }
      return NONE;
    }

    /** Whether the ends can be joined with stones on mine, as both fill rest, the other one first. */
    private boolean holds(int mine, int rest, int depth) {
      if (ties(mine)) {
        return true;
      }
      int at = gaps.pair(mine, rest);
      if (at < 0 || at >= held.length || depth > MOST_GAPS || !ties(mine | rest)) {
        return false;
      }
      if (held[at] == UNKNOWN) {
        held[at] = (byte) (hasAnswers(mine, rest, depth) ? YES : NO);
      }
      return held[at] == YES;
    }

    private boolean hasAnswers(int mine, int rest, int depth) {
      for (int gap = 0; gap < gaps.count; gap++) {
        if (has(rest, gap) && !hasAnswer(mine, rest & ~(1 << gap), depth)) {
          return false;
        }
      }
      return true;
    }

    private boolean hasAnswer(int mine, int rest, int depth) {
      for (int gap = 0; gap < gaps.count; gap++) {
        int bit = 1 << gap;
        if (has(rest, gap) && holds(mine | bit, rest & ~bit, depth + 1)) {
          return true;
        }
      }
      return false;
    }

    /** Whether the ends are joined, once there are stones on some gaps too. */
    private boolean ties(int gapSet) {
      if (gapSet < 0 || gapSet >= tied.length) {
        return false;
      }
      if (tied[gapSet] == UNKNOWN) {
        long own = stones | gaps.spread(gapSet);
        boolean meets = (board.reach(cellsOf(one), own) & cellsOf(other)) != 0;
        tied[gapSet] = (byte) (meets ? YES : NO);
      }
      return tied[gapSet] == YES;
    }

    private long cellsOf(int end) {
      return end >= FIRST_SIDE ? board.side(end - FIRST_SIDE) : 1L << end;
    }
  }

  /** How far a player has to go. */
  private static final class Ways {
    private static final int NEVER = 1000;
    private static final int MOST_STARTS = 3;

    private final Board board;
    // for each side to start from and each cell: the empty cells up to it, itself among them
    private final int[] costs = new int[MOST_STARTS * MOST_CELLS];

    Ways(Board board) {
      this.board = board;
    }

    int fewest(int player, long own, long free) {
      int least = board.kind == TRIANGLE ? fewestToThree(own, free)
          : player == 0 ? fewestToTwo(0, 1, own, free) : fewestToTwo(2, 3, own, free);
      return least < NEVER ? least : NONE;
    }

    private int fewestToTwo(int one, int other, long own, long free) {
      measure(0, board.side(one), own, free);
      int least = NEVER;
      for (int cell = 0; cell < board.cells; cell++) {
        if (has(board.side(other), cell)) {
          least = Math.min(least, cost(0, cell));
        }
      }
      return least;
    }

    /** Three ways meet in a cell, which all three of them count. */
    private int fewestToThree(long own, long free) {
      for (int start = 0; start < MOST_STARTS; start++) {
        measure(start, board.side(start), own, free);
      }
      int least = NEVER;
      for (int cell = 0; cell < board.cells; cell++) {
        int counted = cost(0, cell) + cost(1, cell) + cost(2, cell);
        least = Math.min(least, has(free, cell) ? counted - 2 : counted);
      }
      return least;
    }

    private void measure(int start, long from, long own, long free) {
      long reached = board.reach(from, own);
      note(start, board.all, NEVER);
      note(start, reached, 0);
      for (int cost = 1; cost <= MOST_CELLS; cost++) {
        long step = (from | beside(reached)) & free & ~reached;
        if (step == 0) {
          return;
        }
        long wider = board.reach(reached | step, own | reached | step);
        note(start, wider & ~reached, cost);
        reached = wider;
      }
    }

    private long beside(long set) {
      long beside = 0;
      for (int cell = 0; cell < board.cells; cell++) {
        beside |= has(set, cell) ? board.around(cell) : 0;
      }
      return beside;
    }

    private void note(int start, long set, int cost) {
      for (int cell = 0; cell < board.cells; cell++) {
        int at = start * MOST_CELLS + cell;
        if (has(set, cell) && at >= 0 && at < costs.length) {
          costs[at] = cost;
        }
      }
    }

    private int cost(int start, int cell) {
      int at = start * MOST_CELLS + cell;
      return at >= 0 && at < costs.length ? costs[at] : NEVER;
    }
  }

  /** Games that are played out by told seeds. */
  private static final class PlayingOut {
    private final Board board;
    private long number;

    PlayingOut(Board board) {
      this.board = board;
    }

    long stonesOf0(long stones0, long stones1, int turn, int seed) {
      number = seed;
      long of0 = stones0;
      long of1 = stones1;
      int mover = turn;
      int last = NONE;
      for (int i = 0; i < MOST_CELLS; i++) {
        long empty = board.all & ~(of0 | of1);
        if (empty == 0) {
          break;
        }
        int saving = last == NONE ? NONE : saving(last, mover == 0 ? of0 : of1, empty);
        last = saving == NONE ? drawnOf(empty) : saving;
        of0 |= mover == 0 ? 1L << last : 0;
        of1 |= mover == 0 ? 0 : 1L << last;
        mover = 1 - mover;
      }
      return of0;
    }

    /** The lowest empty cell that mends a bridge which the last stone broke. */
    private int saving(int last, long mine, long empty) {
      long saving = 0;
      for (int one = 0; one < DIRECTIONS; one++) {
        for (int other = one + 1; other < DIRECTIONS; other++) {
          saving |= between(board.next(last, one), board.next(last, other), mine);
        }
      }
      saving &= empty;
      return saving == 0 ? NONE : lowest(saving);
    }

    /** The common neighbours of two cells of mine that are a bridge. */
    private long between(int one, int other, long mine) {
      if (one == NONE || other == NONE || !has(mine, one) || !has(mine, other)
          || has(board.around(one), other)) {
        return 0;
      }
      long common = board.around(one) & board.around(other);
      return Long.bitCount(common) == 2 ? common : 0;
    }

    private int drawnOf(long empty) {
      long left = empty;
      int passed = draw(Long.bitCount(empty));
      for (int i = 0; i < passed && i < MOST_CELLS; i++) {
        left &= left - 1;
      }
      return lowest(left);
    }

    private int draw(int below) {
      number = (1103515245L * number + 12345) % 2147483648L;
      return below < 1 ? 0 : (int) (number / 65536 % below);
    }
  }

  /** The tape, and the patterns that were made of it. */
  private static final class Patterns {
    static final int TAPE = 30;
    static final int MOST = 6;
    // 30 characters hold four alternatives with three signs | between them, and no more
    private static final int MOST_ROWS = 4;
    // what there is in a direction, a bit each; * stands for any of them
    private static final int EMPTY = 1, OWN = 2, OTHERS = 4, OUTSIDE = 8, ANY = 15;
    private static final int BITS = 4;
    private static final int ALL_BITS = (1 << BITS * DIRECTIONS) - 1;
    private static final int FIXED = 1 << BITS * DIRECTIONS;

    private final Board board;
    private final char[] tape = new char[TAPE];
    private final char[] texts = new char[MOST * TAPE];
    private final int[] lengths = new int[MOST];
    // an alternative each: what may be in the directions, and FIXED if it is not turned
    private final int[] alternatives = new int[MOST * MOST_ROWS];
    private final int[] alternativesOf = new int[MOST];
    int taped;
    int count;

    Patterns(Board board) {
      this.board = board;
    }

    boolean canType(long characters, int n) {
      for (int i = 0; i < n && i < 8; i++) {
        char sign = signOf(characters, i);
        if (meaning(sign) == 0 && sign != '!' && sign != '|') {
          return false;
        }
      }
      return true;
    }

    void append(long characters, int n) {
      for (int i = 0; i < n && i < 8 && taped >= 0 && taped < TAPE; i++) {
        tape[taped] = signOf(characters, i);
        taped++;
      }
    }

    private char signOf(long characters, int place) {
      return (char) (characters >> 8 * place & 255);
    }

    /** What may be in a direction with a character; 0 if it stands for no direction. */
    private static int meaning(char sign) {
      return sign == '.' ? EMPTY : sign == 'o' ? OWN : sign == 'x' ? OTHERS
          : sign == '#' ? OUTSIDE : sign == '*' ? ANY : 0;
    }

    int firstFault() {
      int had = 0; // characters of the alternative so far, ! among them
      for (int i = 0; i < taped && i < TAPE; i++) {
        char sign = tape[i];
        if (had >= DIRECTIONS && sign == '|') {
          had = 0;
        } else if (had < DIRECTIONS ? meaning(sign) != 0 : had == DIRECTIONS && sign == '!') {
          had++;
        } else {
          return i;
        }
      }
      return had >= DIRECTIONS ? NONE : taped;
    }

    boolean hasPattern(int pattern) {
      return pattern >= 0 && pattern < count && pattern < MOST;
    }

    int keep() {
      if (count < 0 || count >= MOST) {
        return NONE;
      }
      for (int i = 0; i < taped && i < TAPE; i++) {
        texts[count * TAPE + i] = tape[i];
      }
      lengths[count] = taped;
      alternativesOf[count] = 0;
      count++;
      taped = 0;
      translate(count - 1);
      return count - 1;
    }

    private void translate(int pattern) {
      if (!hasPattern(pattern)) {
        return;
      }
      int row = 0;
      int had = 0;
      for (int i = 0; i < lengths[pattern] && i < TAPE; i++) {
        char sign = character(pattern, i);
        if (sign == '|') {
          row += row + 1 < MOST_ROWS ? 1 : 0;
          had = 0;
        } else {
          int at = pattern * MOST_ROWS + row;
          int bits = sign == '!' ? FIXED : meaning(sign) << BITS * had;
          alternatives[at] = had == 0 ? bits : alternatives[at] | bits;
          had++;
        }
      }
      alternativesOf[pattern] = row + 1;
    }

    private char character(int pattern, int place) {
      return hasPattern(pattern) && place >= 0 && place < TAPE
          ? texts[pattern * TAPE + place] : ' ';
    }

    long placesByRows(int pattern, long own, long others) {
      long places = 0;
      for (int cell = 0; cell < board.cells; cell++) {
        if (!has(own | others, cell) && rowsFit(pattern, surroundings(cell, own, others))) {
          places |= 1L << cell;
        }
      }
      return places;
    }

    private int surroundings(int cell, long own, long others) {
      int bits = 0;
      for (int direction = 0; direction < DIRECTIONS; direction++) {
        bits |= thing(board.next(cell, direction), own, others) << BITS * direction;
      }
      return bits;
    }

    private static int thing(int cell, long own, long others) {
      return cell == NONE ? OUTSIDE : has(own, cell) ? OWN : has(others, cell) ? OTHERS : EMPTY;
    }

    private boolean rowsFit(int pattern, int things) {
      if (!hasPattern(pattern)) {
        return false;
      }
      for (int row = 0; row < alternativesOf[pattern] && row < MOST_ROWS; row++) {
        if (rowFits(alternatives[pattern * MOST_ROWS + row], things)) {
          return true;
        }
      }
      return false;
    }

    private static boolean rowFits(int alternative, int things) {
      int turned = alternative & ALL_BITS;
      int turns = (alternative & FIXED) != 0 ? 1 : DIRECTIONS;
      for (int turn = 0; turn < turns; turn++) {
        if ((things & ~turned) == 0) {
          return true;
        }
        turned = (turned << BITS | turned >> BITS * (DIRECTIONS - 1)) & ALL_BITS;
      }
      return false;
    }

    long placesByText(int pattern, long own, long others) {
      long places = 0;
      for (int cell = 0; cell < board.cells; cell++) {
        if (!has(own | others, cell) && textFits(pattern, cell, own, others)) {
          places |= 1L << cell;
        }
      }
      return places;
    }

    private boolean textFits(int pattern, int cell, long own, long others) {
      int length = hasPattern(pattern) ? lengths[pattern] : 0;
      int start = 0;
      for (int i = 0; i < MOST_ROWS && start < length; i++) {
        int end = start + DIRECTIONS;
        boolean fixed = end < length && character(pattern, end) == '!';
        for (int turn = 0; turn < (fixed ? 1 : DIRECTIONS); turn++) {
          if (textFitsTurned(pattern * TAPE + start, turn, cell, own, others)) {
            return true;
          }
        }
        start = end + (fixed ? 2 : 1);
      }
      return false;
    }

    private boolean textFitsTurned(int at, int turn, int cell, long own, long others) {
      for (int i = 0; i < DIRECTIONS; i++) {
        if (at < 0 || at + i >= texts.length) {
          return false;
        }
        int there = board.next(cell, (i + turn) % DIRECTIONS);
        if ((meaning(texts[at + i]) & thing(there, own, others)) == 0) {
          return false;
        }
      }
      return true;
    }
  }

  /** The clocks of a game. */
  private static final class Times {
    private final int[] seconds = new int[2];
    private final int[] periods = new int[2];
    private final int[] used = new int[2];
    private int each;
    boolean ticking;
    int loser = NONE;

    void takeAway() {
      start(0, 0, 0);
      ticking = false;
      loser = NONE;
    }

    void start(int newSeconds, int newPeriods, int newEach) {
      Arrays.fill(seconds, newSeconds);
      Arrays.fill(periods, newPeriods);
      Arrays.fill(used, 0);
      each = newEach;
      ticking = true;
    }

    void giveBack(int player) {
      if (isPlayer(player)) {
        used[player] = 0;
      }
    }

    void spend(int player, int thought) {
      if (!isPlayer(player) || each < 1) {
        return;
      }
      int own = Math.min(thought, seconds[player]);
      int more = used[player] + thought - own;
      int whole = Math.min(periods[player], more / each);
      seconds[player] -= own;
      periods[player] -= whole;
      used[player] = more - whole * each;
      if (periods[player] == 0 && more > 0) {
        loser = player;
      }
    }

    int shown(int player, int what) {
      if (!isPlayer(player)) {
        return 0;
      }
      return what == 0 ? seconds[player] : what == 1 ? periods[player] : used[player];
    }
  }

  /** The persons, their ratings and places. */
  private static final class Ladder {
    static final int MOST = 10;
    private static final int FIRST_RATING = 1000;

    private final int[] ratings = new int[MOST];
    private final int[] places = new int[MOST];
    private final int[] won = new int[MOST];
    private final int[] lost = new int[MOST];
    int count;

    boolean hasPerson(int person) {
      return person >= 0 && person < count && person < MOST;
    }

    int takeOn() {
      int person = count;
      if (person >= 0 && person < MOST) {
        ratings[person] = FIRST_RATING;
        places[person] = person;
        count++;
      }
      return person;
    }

    int enter(int winner, int loser) {
      if (!hasPerson(winner) || !hasPerson(loser)) {
        return NONE;
      }
      int ahead = ratings[winner] - ratings[loser];
      int change = Math.max(1, Math.min(31, 16 - Math.floorDiv(ahead, 25)));
      ratings[winner] += change;
      ratings[loser] -= change;
      won[winner]++;
      lost[loser]++;
      climb(winner, places[loser]);
      return ratings[winner];
    }

    private void climb(int person, int to) {
      if (!hasPerson(person) || places[person] < to) {
        return;
      }
      int from = places[person];
      for (int i = 0; i < count && i < MOST; i++) {
        places[i] += places[i] >= to && places[i] < from ? 1 : 0;
      }
      places[person] = to;
    }

    int shown(int person, int what) {
      if (!hasPerson(person)) {
        return NONE;
      }
      return what == 0 ? ratings[person] : what == 1 ? places[person]
          : what == 2 ? won[person] : lost[person];
    }
  }
}
