import java.util.ArrayList;
import java.util.List;

/** Promises 1 to 8: for each sentence that names a boundary case, runs that hold to it. */
final class GameEdges {
  private static final int RHOMB = 0, TRIANGLE = 1, CYLINDER = 2;
  private static final String WON_BY_0 = Script.WON_BY_0;
  private static final String WON_BY_1 = Script.WON_BY_1;
  private static final String LOST_ON_TIME_BY_0 =
      " game(0,2,2)=4 clocks(1,0,1)=nothing think(2)=1 ";
  private static final String LOST_ON_TIME_BY_1 =
      " game(0,2,2)=4 clocks(1,0,1)=nothing move(0)=-1 think(2)=0 ";
  /** Moves by which a board fills up, so that nobody has joined ahead of the last one. */
  static final int[] FULL_RHOMB = {22, 30, 28, 20, 26, 15, 29, 12, 21, 9, 23, 35, 18, 24, 5, 31, 13,
      19, 0, 33, 17, 32, 8, 10, 14, 2, 34, 1, 27, 16, 3, 6, 7, 25, 11, 4};
  static final int[] FULL_TRIANGLE = {7, 0, 11, 14, 15, 8, 5, 6, 12, 9, 2, 20, 19, 1, 3, 17, 10,
      18, 13, 16, 4};
  static final int[] FULL_CYLINDER = {2, 18, 31, 23, 0, 28, 3, 9, 34, 26, 14, 21, 13, 17, 30, 15,
      22, 32, 29, 33, 6, 25, 35, 7, 4, 1, 24, 5, 10, 11, 19, 20, 27, 12, 16, 8};

  /** Moves behind a swap on the cell 0; then the cell 34 alone is empty, and decides. */
  private static final int[] SWAPPED_RHOMB = {13, 4, 14, 10, 15, 16, 17, 22, 18, 28, 19, 1, 20, 2,
      21, 3, 23, 6, 24, 7, 25, 8, 26, 9, 27, 5, 29, 11, 31, 12, 32, 30, 33, 35};

  private GameEdges() {
  }

  static void all() {
    newObject();
    fiveHundredAndTwelveCalls();
    gameArguments();
    gameBegins();
    moveArguments();
    moveOfGameThatIsOver();
    joinedOnRhomb();
    joinedOnTriangle();
    joinedOnCylinder();
    fullBoards();
    swapRefused();
    swapOnBoards();
    swapOnFullBoards();
    undo();
    undoOfGameThatIsOver();
    told();
    cellArguments();
    cellOfGroups();
    sidesOfEachCell();
    neighbourArguments();
    neighboursOfEachCell();
  }

  private static void edge(int promise, String sentence, String... parts) {
    Script.edge(promise, sentence, parts);
  }

  /** Moves one behind the other, none of which ends the game. */
  static String moves(int[] cells, int from, int until) {
    StringBuilder calls = new StringBuilder(" ");
    for (int i = from; i < until; i++) {
      calls.append("move(").append(cells[i]).append(")=-1 ");
    }
    return calls.toString();
  }

  private static String repeated(String calls, int times) {
    StringBuilder all = new StringBuilder(" ");
    for (int i = 0; i < times; i++) {
      all.append(calls).append(' ');
    }
    return all.toString();
  }

  // ---- promise 1

  private static void newObject() {
    edge(1, "a game on an empty RHOMB of two rows and two columns",
        "told(0)=0 told(1)=0 told(2)=4 told(3)=-1 told(4)=-1 told(5)=0 told(6)=0 cell(0,0)=-1",
        "cell(1,0)=-1 cell(2,0)=-1 cell(3,0)=-1 cell(4,0)=IOOBE cell(0,4)=0 cell(1,4)=0",
        "cell(2,4)=1 cell(3,4)=1 cell(1,5)=1 cell(2,5)=0 cell(3,5)=1 neighbour(0,0)=1",
        "neighbour(0,1)=2 neighbour(0,2)=-1 neighbour(0,3)=-1 neighbour(1,0)=-1 neighbour(1,1)=3",
        "neighbour(1,2)=2 neighbour(3,0)=-1 wins()=6 best()=0 lasts()=3 carrier(0,100,103)=-1",
        "carrier(0,100,104)=IOOBE far(0)=2 far(1)=2");
    edge(1, "a game: it has no move yet", "undo()=ISE swap()=ISE gaveAway(0)=IOOBE told(0)=0");
    edge(1, "a game: it goes on, and is not recorded",
        "person()=0 person()=1 record(0,1)=ISE move(0)=-1 undo()=0", WON_BY_0.substring(14),
        "record(0,1)=1016");
    edge(1, "without patterns", "fits(0,0)=IOOBE fits(0,1)=IOOBE fitsAnew(0,0)=IOOBE",
        "tape(******)= pattern()=0 fits(0,0)=15");
    edge(1, "without persons", "ofPerson(0,0)=IOOBE record(0,1)=IOOBE record(0,0)=IOOBE person()=0",
        "ofPerson(0,0)=1000 ofPerson(1,0)=IOOBE");
    edge(1, "without clocks", "clock(0,0)=0 clock(0,1)=0 clock(0,2)=0 clock(1,0)=0 clock(1,1)=0",
        "clock(1,2)=0 think(1)=ISE clocks(0,1,1)=nothing think(1)=1");
    edge(1, "the tape is empty", "fault()=0 pattern()=IAE wipe()=0 type(46,1)=1 wipe()=1");
    Script.count(1);
    Script.that(1, Linkcourt.NONE == -1 && Linkcourt.RHOMB == 0 && Linkcourt.TRIANGLE == 1
        && Linkcourt.CYLINDER == 2, "the constants");
    Script.count(1);
    Linkcourt one = new Linkcourt(), other = new Linkcourt();
    one.game(CYLINDER, 6, 6);
    one.type('.', 1);
    one.person();
    Script.that(1, other.told(2) == 4 && other.wipe() == 0 && other.person() == 0
        && one.told(2) == 36 && one.wipe() == 1, "objects know nothing of one another");
  }

  private static void fiveHundredAndTwelveCalls() {
    String sentence = "used for at most 512 calls: the 512th one is answered too";
    edge(1, sentence, repeated("move(0)=-1 undo()=0", 255) + "move(3)=-1 cell(3,6)=0");
    edge(1, sentence, repeated("type(3327647950551526958,8)=8 wipe()=8", 255),
        "type(46,1)=1 wipe()=1");
    edge(1, sentence, repeated("game(0,6,6)=36 clocks(0,1,60)=nothing think(59)=-1 move(35)=-1",
        127), "game(2,3,3)=9 clocks(9,9,9)=nothing think(99)=1 told(4)=1");
    edge(1, sentence, repeated("best()=0 wins()=6 lasts()=3 dead()=0", 126),
        "move(0)=-1 best()=1 wins()=2 lasts()=3 move(1)=-1 best()=1 wins()=0 lasts()=2");
    edge(1, sentence, repeated("playedOut(0)=5 plays(0,50)=22", 256));
    edge(1, sentence, repeated("move(4)=IOOBE game(3,3,3)=IAE swap()=ISE undo()=ISE", 127),
        "move(0)=-1 swap()=0 undo()=1 undo()=0");
  }

  // ---- promise 2

  private static void gameArguments() {
    edge(2, "kind: RHOMB to CYLINDER", "game(0,3,3)=9 game(2,3,3)=9 game(1,3,3)=6",
        "game(-1,3,3)=IAE game(3,3,3)=IAE game(4,3,3)=IAE game(-2147483648,3,3)=IAE",
        "game(2147483647,3,3)=IAE told(2)=6");
    edge(2, "rows: 2 to 6, of a RHOMB", "game(0,2,3)=6 game(0,6,3)=18 game(0,1,3)=IAE",
        "game(0,7,3)=IAE game(0,0,3)=IAE game(0,-1,3)=IAE game(0,-2147483648,3)=IAE",
        "game(0,2147483647,3)=IAE told(2)=18");
    edge(2, "rows: 2 to 6, of a TRIANGLE", "game(1,2,2)=3 game(1,6,6)=21 game(1,1,1)=IAE",
        "game(1,7,7)=IAE game(1,0,0)=IAE game(1,-1,-1)=IAE game(1,2147483647,2147483647)=IAE",
        "told(2)=21");
    edge(2, "rows: 2 to 6, of a CYLINDER", "game(2,2,3)=6 game(2,6,3)=18 game(2,1,3)=IAE",
        "game(2,7,3)=IAE game(2,0,3)=IAE game(2,-2147483648,3)=IAE told(2)=18");
    edge(2, "columns: of a RHOMB 2 to 6", "game(0,3,2)=6 game(0,3,6)=18 game(0,3,1)=IAE",
        "game(0,3,7)=IAE game(0,3,0)=IAE game(0,3,-1)=IAE game(0,3,-2147483648)=IAE",
        "game(0,3,2147483647)=IAE told(2)=18");
    edge(2, "columns: of a CYLINDER 3 to 6", "game(2,3,3)=9 game(2,3,6)=18 game(2,3,2)=IAE",
        "game(2,3,7)=IAE game(2,2,2)=IAE game(2,3,-2147483648)=IAE told(2)=18");
    edge(2, "columns: of a TRIANGLE as many as rows", "game(1,3,3)=6 game(1,3,2)=IAE",
        "game(1,3,4)=IAE game(1,2,3)=IAE game(1,4,3)=IAE game(1,2,6)=IAE game(1,6,2)=IAE",
        "game(1,3,0)=IAE told(2)=6");
    StringBuilder all = new StringBuilder();
    for (int kind = -1; kind <= 3; kind++) {
      for (int i = 0; i < 49; i++) {
        int rows = 1 + i / 7, columns = 1 + i % 7, cells = cellsOf(kind, rows, columns);
        all.append("game(" + kind + "," + rows + "," + columns + ")=");
        all.append(cells > 0 ? cells + " " : "IAE ");
      }
    }
    edge(2, "returns how many cells it has", all.toString());
    edge(2, "of a RHOMB rows and columns are told apart", "game(0,2,6)=12 cell(11,4)=1",
        "cell(11,5)=5 cell(6,4)=1 cell(6,5)=0 game(0,6,2)=12 cell(11,4)=5 cell(11,5)=1",
        "cell(6,4)=3 cell(6,5)=0");
  }

  /** How many cells a board has; 0 if there is none. */
  private static int cellsOf(int kind, int rows, int columns) {
    boolean is = rows > 1 && rows < 7 && columns < 7 && (kind == RHOMB && columns > 1
        || kind == TRIANGLE && columns == rows || kind == CYLINDER && columns > 2);
    return !is ? 0 : kind == TRIANGLE ? rows * (rows + 1) / 2 : rows * columns;
  }

  /** All boards: the kind, rows, columns and cells of each. */
  private static List<int[]> boards() {
    List<int[]> boards = new ArrayList<>();
    for (int kind = RHOMB; kind <= CYLINDER; kind++) {
      for (int i = 0; i < 25; i++) {
        int rows = 2 + i / 5, columns = 2 + i % 5, cells = cellsOf(kind, rows, columns);
        if (cells > 0) {
          boards.add(new int[] {kind, rows, columns, cells});
        }
      }
    }
    return boards;
  }

  private static String begun(int[] board) {
    return "game(" + board[0] + "," + board[1] + "," + board[2] + ")=" + board[3];
  }

  private static void gameBegins() {
    String begun = " told(0)=0 told(1)=0 told(2)=4 told(3)=-1 told(4)=-1 told(5)=0 told(6)=0"
        + " cell(0,0)=-1 cell(0,6)=-1 cell(3,0)=-1 undo()=ISE swap()=ISE gaveAway(0)=IOOBE"
        + " clock(0,0)=0 clock(1,1)=0 clock(0,2)=0 think(1)=ISE best()=0 wins()=6 move(0)=-1"
        + " swap()=0 undo()=1 undo()=0 clocks(1,1,1)=nothing ";
    edge(2, "begins a game: behind moves", "move(0)=-1 move(3)=-1 game(0,2,2)=4", begun);
    edge(2, "begins a game: behind a swap", "move(1)=-1 swap()=2 game(0,2,2)=4", begun,
        "move(0)=-1 move(3)=-1 gaveAway(1)=1");
    edge(2, "begins a game: behind one that is over", WON_BY_0 + "game(0,2,2)=4", begun,
        WON_BY_1 + "game(0,2,2)=4", begun);
    edge(2, "begins a game: behind one that was lost on time",
        LOST_ON_TIME_BY_0 + "game(0,2,2)=4", begun, LOST_ON_TIME_BY_1 + "game(0,2,2)=4", begun);
    edge(2, "begins a game: behind one that was recorded, it can be recorded again",
        "person()=0 person()=1", WON_BY_0, "record(0,1)=1016 game(0,2,2)=4", begun, WON_BY_0,
        "undo()=2 move(1)=0 record(0,1)=1031 record(0,1)=ISE");
    edge(2, "without clocks: those of the game before are gone",
        "clocks(3600,9,60)=nothing think(3599)=IAE think(600)=-1 game(0,2,2)=4", begun,
        "clocks(5,1,5)=ISE clock(0,0)=1");
    edge(2, "the largest board behind the smallest one, and the other way round",
        "game(1,2,2)=3 move(2)=-1 cell(3,0)=IOOBE game(0,6,6)=36 cell(35,0)=-1 move(35)=-1",
        "cell(36,0)=IOOBE game(1,2,2)=3 cell(2,0)=-1 cell(3,0)=IOOBE cell(35,0)=IOOBE",
        "move(3)=IOOBE carrier(0,100,103)=IOOBE neighbour(2,0)=-1 wins()=7");
    edge(2, "another kind with as many cells", "game(0,3,3)=9 wins()=214 neighbour(2,0)=-1",
        "game(2,3,3)=9 wins()=511 neighbour(2,0)=0 game(0,3,3)=9 wins()=214");
    edge(2, "the tape, the patterns and the persons stay", "person()=0 tape(******)= pattern()=0",
        "tape(..)= game(2,3,3)=9 wipe()=2 fits(0,0)=511 ofPerson(0,0)=1000 person()=1");
    edge(2, "what is refused leaves the game as it is", "clocks(9,1,5)=nothing move(1)=-1 swap()=2",
        "game(0,2,7)=IAE told(0)=2 cell(2,6)=1 think(1)=-1 clock(0,0)=8 undo()=1 cell(1,6)=0");
    edge(2, "what is refused leaves a recorded game recorded", "person()=0 person()=1", WON_BY_0,
        "record(0,1)=1016 game(3,2,2)=IAE undo()=ISE record(0,1)=ISE told(4)=0");
  }

  // ---- promise 3

  private static void moveArguments() {
    for (int[] board : boards()) {
      int cells = board[3], last = cells - 1;
      edge(3, "no such cell: one below the first, one behind the last", begun(board),
          "move(-1)=IOOBE move(" + cells + ")=IOOBE move(" + last + ")=-1 move(0)=-1",
          "cell(" + last + ",0)=0 cell(0,0)=1 told(0)=2 move(0)=IAE move(" + last + ")=IAE");
    }
    edge(3, "no such cell: far off", "move(64)=IOOBE move(100)=IOOBE move(2147483647)=IOOBE",
        "move(-64)=IOOBE move(-2147483648)=IOOBE told(0)=0 told(1)=0");
    edge(3, "not empty: a stone of its own, one of the other player", "move(1)=-1 move(1)=IAE",
        "told(1)=1 move(2)=-1 move(1)=IAE move(2)=IAE told(0)=2 told(1)=0 move(0)=0");
    edge(3, "not empty: behind a swap the stone's cell, not the one that it left",
        "move(1)=-1 swap()=2 move(2)=IAE move(1)=-1 cell(1,0)=0 cell(1,6)=2");
    edge(3, "not empty: a stone that was taken back leaves its cell empty",
        "move(1)=-1 undo()=0 move(1)=-1 undo()=0 move(2)=-1 move(1)=-1 cell(1,0)=1");
    edge(3, "the player 0 moves first; then both in turn", "game(0,2,4)=8 told(1)=0 move(0)=-1",
        "told(1)=1 move(4)=-1 told(1)=0 move(2)=-1 cell(0,0)=0 cell(4,0)=1 cell(2,0)=0");
  }

  private static void moveOfGameThatIsOver() {
    edge(3, "the game is over: the player 0 has joined", WON_BY_0, "move(2)=ISE told(0)=3",
        "cell(2,0)=-1 told(1)=1");
    edge(3, "the game is over: the player 1 has joined",
        "game(0,2,3)=6 move(0)=-1 move(1)=-1 move(2)=-1 move(4)=1 move(3)=ISE told(0)=4");
    edge(3, "the game is over: lost on time", LOST_ON_TIME_BY_0, "move(0)=ISE told(0)=0",
        LOST_ON_TIME_BY_1, "move(1)=ISE told(0)=1 cell(1,0)=-1");
    edge(3, "no such cell is told first, ahead of a game that is over", WON_BY_0, "move(-1)=IOOBE",
        "move(4)=IOOBE", LOST_ON_TIME_BY_1, "move(-1)=IOOBE move(4)=IOOBE");
    edge(3, "a cell that is not empty is told first, ahead of a game that is over", WON_BY_0,
        "move(0)=IAE move(1)=IAE move(3)=IAE", LOST_ON_TIME_BY_1, "move(0)=IAE");
    edge(3, "a game that is won is over until the move is taken back", WON_BY_0, "move(2)=ISE",
        "undo()=2 move(2)=-1 undo()=2 move(1)=0 move(2)=ISE");
  }

  private static void joinedOnRhomb() {
    edge(3, "on a RHOMB the player 0 joins the sides 0 and 1, and not 2 and 3",
        "game(0,3,3)=9 move(1)=-1 move(0)=-1 move(4)=-1 move(8)=-1 move(7)=-1 cell(4,2)=12",
        "move(2)=-1 move(5)=-1 move(6)=-1 told(3)=-1 move(3)=0 told(3)=0 cell(4,2)=15");
    edge(3, "on a RHOMB the player 1 joins the sides 2 and 3, and not 0 and 1",
        "game(0,3,3)=9 move(0)=-1 move(3)=-1 move(1)=-1 move(4)=-1 move(8)=-1 move(5)=-1",
        "cell(4,2)=3 told(3)=-1 move(7)=-1 move(2)=-1 told(4)=-1 move(6)=0");
    edge(3, "joined with one group: two at one side each do not do",
        "game(0,2,4)=8 move(0)=-1 move(4)=-1 move(1)=-1 move(5)=-1 move(3)=-1 told(3)=-1",
        "told(5)=2 move(7)=-1 move(2)=0 told(5)=1");
    edge(3, "a group hangs together by neighbours: the cells 0 and 4 of a RHOMB are none",
        "game(0,2,3)=6 move(0)=-1 move(5)=-1 move(4)=-1 move(2)=1 told(5)=2");
    edge(3, "two stones are enough on the smallest RHOMB", WON_BY_0, WON_BY_1,
        "game(0,2,2)=4 move(1)=-1 move(0)=-1 move(2)=0 game(0,2,2)=4 move(0)=-1 move(3)=-1",
        "move(2)=-1 move(1)=1");
    edge(3, "both sides as one long row", "game(0,2,6)=12 move(0)=-1 move(6)=-1 move(1)=-1",
        "move(7)=-1 move(2)=-1 move(8)=-1 move(3)=-1 move(9)=-1 move(4)=-1 move(10)=-1 move(5)=0");
  }

  private static void joinedOnTriangle() {
    edge(3, "on a TRIANGLE with a group that is at all three sides: a corner is at two of them",
        "game(1,2,2)=3 move(0)=-1 cell(0,2)=3 move(1)=-1 cell(1,2)=5 move(2)=0 cell(2,2)=7",
        "game(1,2,2)=3 move(1)=-1 move(2)=-1 cell(2,2)=6 move(0)=0");
    edge(3, "on a TRIANGLE the last row is at all three sides",
        "game(1,3,3)=6 move(3)=-1 move(0)=-1 move(5)=-1 move(1)=-1 told(3)=-1 move(4)=0",
        "cell(4,2)=7");
    edge(3, "on a TRIANGLE a side's row from corner to corner is at all three sides",
        "game(1,3,3)=6 move(0)=-1 move(5)=-1 move(1)=-1 move(4)=-1 told(3)=-1 move(3)=0",
        "game(1,3,3)=6 move(3)=-1 move(0)=-1 move(4)=-1 move(2)=-1 move(1)=-1 move(5)=1");
    edge(3, "on a TRIANGLE two groups that are at the three sides together do not do",
        "game(1,4,4)=10 move(0)=-1 move(4)=-1 move(6)=-1 move(5)=-1 move(9)=-1 told(3)=-1",
        "told(5)=3 move(1)=-1 move(8)=-1 told(3)=-1 cell(8,2)=6");
  }

  private static void joinedOnCylinder() {
    edge(3, "on a CYLINDER the player 0 joins both sides over the seam",
        "game(2,2,3)=6 move(0)=-1 move(3)=-1 move(5)=0 game(2,3,4)=12 move(0)=-1 move(4)=-1",
        "move(7)=-1 move(1)=-1 told(3)=-1 move(10)=0");
    edge(3, "on a CYLINDER a ring of the player 0 does not win",
        "game(2,3,3)=9 move(3)=-1 move(0)=-1 move(4)=-1 move(7)=-1 move(5)=-1 told(3)=-1");
    edge(3, "on a CYLINDER the player 1 does not win by a group at both sides",
        "game(2,2,4)=8 move(0)=-1 move(1)=-1 move(6)=-1 move(5)=-1 cell(1,2)=3 told(3)=-1");
    edge(3, "the player 1 has joined if no way leads: empty cells are a way too",
        "game(2,3,3)=9 move(0)=-1 move(3)=-1 move(1)=-1 move(4)=-1 told(3)=-1 move(2)=-1",
        "move(5)=1 told(3)=1");
    edge(3, "the player 1 has joined if no way leads: stones of the player 0 are a way too",
        "game(2,3,3)=9 move(5)=-1 move(3)=-1 move(0)=-1 move(4)=-1 told(3)=-1 move(1)=-1",
        "move(8)=-1 told(3)=-1 move(2)=-1 told(3)=-1 move(7)=1 told(2)=1");
    edge(3, "a ring of the player 1 in the first row, in the last one",
        "game(2,3,3)=9 move(3)=-1 move(0)=-1 move(4)=-1 move(1)=-1 move(6)=-1 move(2)=1",
        "game(2,3,3)=9 move(3)=-1 move(6)=-1 move(4)=-1 move(7)=-1 move(0)=-1 move(8)=1");
    edge(3, "all cells of a row but the one at the seam are no ring",
        "game(2,2,3)=6 move(0)=-1 move(4)=-1 move(1)=-1 move(5)=-1 told(3)=-1 move(3)=0",
        "game(2,2,3)=6 move(0)=-1 move(3)=-1 move(1)=-1 move(4)=-1 told(3)=-1 move(5)=0");
    edge(3, "a ring may wind over the seam", "game(2,2,3)=6 move(2)=-1 move(0)=-1 move(3)=-1",
        "move(1)=-1 told(3)=-1 move(5)=0 game(2,2,3)=6 move(2)=-1 move(0)=-1 move(3)=-1",
        "move(4)=-1 undo()=3 move(5)=-1 move(4)=0 game(2,3,3)=9 move(2)=-1 move(0)=-1 move(3)=-1",
        "move(1)=-1 move(6)=-1 move(4)=-1 move(7)=-1 move(5)=1");
  }

  private static void fullBoards() {
    String last = " cell(4,6)=35 gaveAway(35)=0 undo()=35 told(2)=1 told(3)=-1 move(4)=1 ";
    edge(3, "when all cells are taken, just one player has joined: a RHOMB",
        "game(0,6,6)=36", moves(FULL_RHOMB, 0, 35), "told(2)=1 told(3)=-1 move(4)=1 told(2)=0",
        "told(3)=1 told(0)=36 told(1)=0 move(4)=IAE move(36)=IOOBE", last);
    edge(3, "when all cells are taken, just one player has joined: a TRIANGLE", "game(1,6,6)=21",
        moves(FULL_TRIANGLE, 0, 20), "told(2)=1 told(3)=-1 move(4)=0 told(2)=0 told(3)=0",
        "move(4)=IAE move(21)=IOOBE undo()=20");
    edge(3, "when all cells are taken, just one player has joined: a CYLINDER", "game(2,6,6)=36",
        moves(FULL_CYLINDER, 0, 35), "told(2)=1 told(3)=-1 move(8)=1 told(2)=0 told(3)=1",
        "move(8)=IAE undo()=35 undo()=34 move(8)=0 told(2)=1");
    edge(3, "when all cells are taken: small ones",
        "game(1,2,2)=3 move(1)=-1 move(2)=-1 move(0)=0 told(2)=0 game(0,2,2)=4 move(3)=-1",
        "move(1)=-1 move(0)=-1 move(2)=1 told(2)=0 game(2,2,3)=6 move(1)=-1 move(3)=-1 move(0)=-1",
        "move(4)=-1 move(2)=-1 move(5)=1 told(2)=0");
  }

  // ---- promise 4

  private static void swapRefused() {
    edge(4, "not the second move: ahead of the first one", "swap()=ISE told(0)=0 told(1)=0");
    edge(4, "not the second move: the third one", "move(0)=-1 move(3)=-1 swap()=ISE told(0)=2",
        "cell(0,0)=0 cell(3,0)=1");
    edge(4, "not the second move: behind a swap", "move(1)=-1 swap()=2 swap()=ISE cell(2,0)=1",
        "told(0)=2 move(0)=-1 swap()=ISE told(0)=3");
    edge(4, "the second move again, once what came behind the first one is taken back",
        "move(1)=-1 move(2)=-1 undo()=1 swap()=2 undo()=1 swap()=2 undo()=1 undo()=0 swap()=ISE",
        "move(2)=-1 swap()=1 cell(2,0)=-1 cell(1,0)=1");
    edge(4, "the game is over: lost on time at the second move", LOST_ON_TIME_BY_1,
        "swap()=ISE told(0)=1 cell(0,0)=0 told(4)=0");
    edge(4, "the game is over: joined", WON_BY_0, "swap()=ISE told(0)=3");
    edge(4, "instead of the second move: it is one", "move(0)=-1 swap()=0 told(0)=2 told(1)=0",
        "told(2)=3 told(5)=0 told(6)=1 move(1)=-1 told(1)=1 cell(1,6)=2");
  }

  private static void swapOnBoards() {
    edge(4, "row and column exchanged on a RHOMB with as many rows as columns",
        "move(1)=-1 swap()=2 undo()=1 undo()=0 move(2)=-1 swap()=1 game(0,3,3)=9 move(2)=-1",
        "swap()=6 cell(2,0)=-1 cell(6,0)=1 cell(6,6)=1 game(0,4,4)=16 move(12)=-1 swap()=3",
        "game(0,5,5)=25 move(9)=-1 swap()=21 game(0,6,6)=36 move(5)=-1 swap()=30 undo()=1",
        "undo()=0 move(34)=-1 swap()=29 undo()=1 undo()=0 move(30)=-1 swap()=5");
    edge(4, "a stone with its row as its column stays", "move(0)=-1 swap()=0 cell(0,0)=1",
        "cell(0,6)=1 undo()=1 cell(0,0)=0 cell(0,6)=0 undo()=0 move(3)=-1 swap()=3 game(0,6,6)=36",
        "move(0)=-1 swap()=0 undo()=1 undo()=0 move(35)=-1 swap()=35 told(2)=35 game(0,3,3)=9",
        "move(4)=-1 swap()=4");
    edge(4, "on a RHOMB with other columns than rows the stone stays",
        "game(0,2,3)=6 move(1)=-1 swap()=1 game(0,3,2)=6 move(1)=-1 swap()=1 game(0,5,6)=30",
        "move(5)=-1 swap()=5 game(0,6,5)=30 move(25)=-1 swap()=25 game(0,2,6)=12 move(11)=-1",
        "swap()=11 cell(11,0)=1 cell(11,6)=1");
    edge(4, "on a CYLINDER the stone stays, with as many rows as columns too",
        "game(2,3,3)=9 move(2)=-1 swap()=2 game(2,6,6)=36 move(5)=-1 swap()=5 cell(5,0)=1",
        "game(2,2,3)=6 move(5)=-1 swap()=5");
    edge(4, "on a TRIANGLE the stone stays", "game(1,3,3)=6 move(3)=-1 swap()=3 cell(3,0)=1",
        "game(1,6,6)=21 move(15)=-1 swap()=15 game(1,2,2)=3 move(1)=-1 swap()=1");
    edge(4, "the player 0 is to move then, also on the cell that the stone left",
        "move(1)=-1 swap()=2 told(1)=0 move(1)=-1 cell(1,0)=0 cell(2,0)=1 told(1)=1 move(0)=1");
    edge(4, "a swap makes one move more than cells",
        "game(1,2,2)=3 move(0)=-1 swap()=0 move(1)=-1 move(2)=1 told(0)=4 told(2)=0 cell(2,6)=3",
        "undo()=3 undo()=2 undo()=1 undo()=0 undo()=ISE told(2)=3");
  }

  private static void swapOnFullBoards() {
    edge(4, "a swap makes one move more than cells: 37 of the largest RHOMB", "game(0,6,6)=36",
        "move(0)=-1 swap()=0", moves(SWAPPED_RHOMB, 0, 34), "told(2)=1 told(0)=36 move(34)=0",
        "told(2)=0 told(0)=37 told(1)=1 cell(34,6)=36 cell(0,6)=1 gaveAway(36)=0 gaveAway(1)=IAE",
        "gaveAway(37)=IOOBE undo()=36 cell(34,0)=-1 told(3)=-1 undo()=35 told(2)=2");
    edge(4, "a swap makes one move more than cells: all of them taken back", "game(0,6,6)=36",
        "move(0)=-1 swap()=0", moves(SWAPPED_RHOMB, 0, 34), "move(34)=0", undone(37),
        "undo()=ISE told(2)=36 told(6)=0 swap()=ISE move(1)=-1 swap()=6 cell(6,6)=1");
  }

  // ---- promise 5

  private static void undo() {
    edge(5, "there are none", "undo()=ISE move(0)=-1 undo()=0 undo()=ISE told(0)=0 told(1)=0");
    edge(5, "returns how many moves are left", "move(0)=-1 move(1)=-1 move(3)=-1 undo()=2 undo()=1",
        "undo()=0 undo()=ISE");
    edge(5, "a swap taken back gives the player 0 its stone where it was",
        "game(0,3,3)=9 move(1)=-1 swap()=3 undo()=1 cell(1,0)=0 cell(1,6)=0 cell(3,0)=-1",
        "told(1)=1 told(5)=1 told(6)=0 undo()=0 cell(1,0)=-1 told(2)=9 undo()=ISE");
    edge(5, "a swap taken back that left the stone where it was",
        "move(0)=-1 swap()=0 undo()=1 cell(0,0)=0 cell(0,6)=0 told(6)=0 move(3)=-1 cell(0,0)=0");
    edge(5, "behind a swap that was taken back the second move is a move",
        "move(1)=-1 swap()=2 undo()=1 move(0)=-1 gaveAway(1)=0 cell(1,0)=0 cell(2,0)=-1 undo()=1",
        "undo()=0 move(0)=-1 swap()=0 undo()=1 move(3)=-1 gaveAway(1)=1 cell(0,6)=0");
    edge(5, "from a full board to an empty one", "game(0,6,6)=36", moves(FULL_RHOMB, 0, 35),
        "move(4)=1", undone(36), "undo()=ISE told(2)=36 cell(22,0)=-1 told(5)=0 told(6)=0",
        "far(0)=6");
    edge(5, "from a full CYLINDER to an empty one", "game(2,6,6)=36", moves(FULL_CYLINDER, 0, 35),
        "move(8)=1", undone(36), "undo()=ISE told(2)=36 told(3)=-1");
  }

  private static String undone(int moves) {
    StringBuilder calls = new StringBuilder();
    for (int left = moves - 1; left >= 0; left--) {
      calls.append("undo()=").append(left).append(' ');
    }
    return calls.toString();
  }

  private static void undoOfGameThatIsOver() {
    edge(5, "a game that somebody has joined goes on", WON_BY_0, "undo()=2 told(3)=-1 told(4)=-1",
        "cell(1,0)=-1 told(1)=0 move(2)=-1 undo()=2 undo()=1 swap()=0", WON_BY_1,
        "undo()=3 told(4)=-1 told(2)=1 move(2)=1");
    edge(5, "the game was lost on time", LOST_ON_TIME_BY_1, "undo()=ISE told(0)=1 told(4)=0",
        "cell(0,0)=0");
    edge(5, "the game was lost on time, and there are none", LOST_ON_TIME_BY_0,
        "undo()=ISE told(4)=1");
    edge(5, "the game was recorded", "person()=0 person()=1", WON_BY_0,
        "record(1,0)=1016 undo()=ISE told(0)=3 told(4)=0 cell(1,0)=0 game(0,2,2)=4 move(0)=-1",
        "undo()=0");
    edge(5, "the game was lost on time and recorded", "person()=0 person()=1", LOST_ON_TIME_BY_1,
        "record(1,0)=1016 undo()=ISE told(0)=1");
    edge(5, "a record that was refused does not count", "person()=0 person()=1", WON_BY_0,
        "record(0,0)=IAE record(0,2)=IOOBE undo()=2 record(0,1)=ISE undo()=1");
  }

  // ---- promise 6

  private static void told() {
    edge(6, "what: 0 to 6", "told(0)=0 told(6)=0 told(-1)=IAE told(7)=IAE told(-2147483648)=IAE",
        "told(2147483647)=IAE told(64)=IAE", WON_BY_0, "told(-1)=IAE told(7)=IAE");
    edge(6, "how many moves were made, the swap as one of them", "told(0)=0 move(1)=-1 told(0)=1",
        "swap()=2 told(0)=2 undo()=1 told(0)=1 undo()=0 told(0)=0");
    edge(6, "the player to move, of a game that is over too", WON_BY_0, "told(1)=1", WON_BY_1,
        "told(1)=0", LOST_ON_TIME_BY_0, "told(1)=0", LOST_ON_TIME_BY_1, "told(1)=1");
    edge(6, "how many cells are empty: all, and none", "told(2)=4 game(1,2,2)=3 told(2)=3",
        "move(0)=-1 told(2)=2 move(1)=-1 told(2)=1 move(2)=0 told(2)=0 game(0,6,6)=36 told(2)=36",
        "move(0)=-1 swap()=0 told(2)=35");
    edge(6, "who has joined and who has won: nobody", "told(3)=-1 told(4)=-1 move(0)=-1",
        "told(3)=-1");
    edge(6, "who has joined and who has won: either player", WON_BY_0, "told(3)=0 told(4)=0",
        WON_BY_1, "told(3)=1 told(4)=1");
    edge(6, "lost on time: the other one has won, nobody has joined", LOST_ON_TIME_BY_0,
        "told(3)=-1 told(4)=1", LOST_ON_TIME_BY_1, "told(3)=-1 told(4)=0");
    edge(6, "no groups on an empty board", "told(5)=0 told(6)=0 move(0)=-1 told(5)=1 told(6)=0");
    edge(6, "as many groups as stones, and one of all of them",
        "game(0,6,6)=36 move(0)=-1 move(1)=-1 move(2)=-1 move(3)=-1 move(4)=-1 move(5)=-1",
        "move(12)=-1 move(13)=-1 move(14)=-1 move(15)=-1 move(16)=-1 move(17)=-1 told(5)=6",
        "told(6)=6 game(0,3,3)=9 move(0)=-1 move(6)=-1 move(1)=-1 move(7)=-1 move(3)=-1 told(5)=1",
        "told(6)=1");
    edge(6, "a group over the seam of a CYLINDER is one, on a RHOMB two",
        "game(2,2,4)=8 move(0)=-1 move(4)=-1 move(3)=-1 move(6)=-1 told(5)=1 told(6)=2",
        "game(0,2,4)=8 move(0)=-1 move(4)=-1 move(3)=-1 move(6)=-1 told(5)=2 told(6)=2");
    edge(6, "groups of a full board", "game(0,6,6)=36", moves(FULL_RHOMB, 0, 35), "move(4)=1",
        "told(5)=3 told(6)=3 game(1,6,6)=21", moves(FULL_TRIANGLE, 0, 20), "move(4)=0",
        "told(5)=1 told(6)=4");
  }

  // ---- promise 7

  private static void cellArguments() {
    edge(7, "no such cell: one below the first, one behind the last", "cell(-1,0)=IOOBE",
        "cell(4,0)=IOOBE cell(0,0)=-1 cell(3,0)=-1 game(0,6,6)=36 cell(35,4)=5 cell(36,4)=IOOBE",
        "game(1,6,6)=21 cell(20,4)=5 cell(21,4)=IOOBE game(2,6,3)=18 cell(17,4)=5",
        "cell(18,4)=IOOBE cell(2147483647,4)=IOOBE cell(-2147483648,4)=IOOBE cell(64,0)=IOOBE",
        "cell(-60,0)=IOOBE");
    edge(7, "what: 0 to 6", "cell(0,0)=-1 cell(0,6)=-1 cell(0,-1)=IAE cell(0,7)=IAE",
        "cell(3,-2147483648)=IAE cell(3,2147483647)=IAE move(0)=-1 cell(0,-1)=IAE cell(0,7)=IAE",
        "cell(0,6)=0");
    edge(7, "no such cell is told first, ahead of what", "cell(-1,-1)=IOOBE cell(4,7)=IOOBE",
        "cell(-1,7)=IOOBE cell(4,-1)=IOOBE");
    edge(7, "of an empty cell: NONE, but its row and column",
        "game(0,6,6)=36 cell(35,0)=-1 cell(35,1)=-1 cell(35,2)=-1 cell(35,3)=-1 cell(35,4)=5",
        "cell(35,5)=5 cell(35,6)=-1 cell(0,0)=-1 cell(0,1)=-1 cell(0,2)=-1 cell(0,3)=-1",
        "cell(0,4)=0 cell(0,5)=0 cell(0,6)=-1 move(0)=-1 undo()=0 cell(0,1)=-1 cell(0,6)=-1");
    edge(7, "its row, its column: of a TRIANGLE the first row has one cell, each next one more",
        "game(1,6,6)=21 cell(0,4)=0 cell(0,5)=0 cell(1,4)=1 cell(1,5)=0 cell(2,4)=1 cell(2,5)=1",
        "cell(3,4)=2 cell(3,5)=0 cell(5,5)=2 cell(14,4)=4 cell(14,5)=4 cell(15,4)=5 cell(15,5)=0",
        "cell(20,4)=5 cell(20,5)=5");
    edge(7, "its row, its column: cells are numbered row by row",
        "game(2,2,6)=12 cell(5,4)=0 cell(5,5)=5 cell(6,4)=1 cell(6,5)=0 game(0,6,2)=12",
        "cell(1,4)=0 cell(1,5)=1 cell(2,4)=1 cell(2,5)=0 cell(11,4)=5 cell(11,5)=1");
    edge(7, "the number of the move: from 0, 1 behind a swap", "game(0,3,3)=9 move(5)=-1",
        "cell(5,6)=0 swap()=7 cell(7,6)=1 cell(5,6)=-1 move(5)=-1 cell(5,6)=2 move(0)=-1",
        "cell(0,6)=3 undo()=3 cell(0,6)=-1 cell(5,6)=2 undo()=2 cell(5,6)=-1 undo()=1 cell(5,6)=0",
        "cell(7,6)=-1");
    edge(7, "the number of the move: 1 behind a swap on the same cell", "move(3)=-1 swap()=3",
        "cell(3,6)=1 undo()=1 cell(3,6)=0");
    edge(7, "the number of the last move of a full board", "game(0,6,6)=36 move(22)=-1 undo()=0",
        moves(FULL_RHOMB, 0, 35), "move(4)=1 cell(4,6)=35 cell(22,6)=0 cell(30,6)=1 cell(11,6)=34");
  }

  private static void cellOfGroups() {
    edge(7, "a group of one", "game(0,4,4)=16 move(5)=-1 cell(5,0)=0 cell(5,1)=1 cell(5,2)=0",
        "cell(5,3)=5 move(15)=-1 cell(15,0)=1 cell(15,1)=1 cell(15,2)=10 cell(15,3)=15");
    edge(7, "all stones of one player that hang together, and none of the other one",
        "game(0,3,3)=9 move(2)=-1 move(4)=-1 move(5)=-1 move(0)=-1 cell(5,1)=2 cell(5,3)=2",
        "cell(5,2)=6 move(6)=-1 cell(6,1)=1 move(1)=-1 cell(0,1)=3 cell(4,3)=0 cell(4,2)=5");
    edge(7, "at a side, if one of its stones is", "game(0,3,4)=12 move(5)=-1 move(0)=-1",
        "cell(5,2)=0 move(6)=-1 move(11)=-1 cell(5,2)=0 move(7)=-1 cell(5,2)=2 cell(6,2)=2",
        "cell(5,1)=3");
    edge(7, "a group over the seam of a CYLINDER",
        "game(2,3,6)=18 move(0)=-1 move(6)=-1 move(5)=-1 move(11)=-1 cell(0,1)=2 cell(5,3)=0",
        "cell(6,1)=2 cell(11,3)=6 cell(11,2)=0 move(10)=-1 move(12)=-1 cell(10,1)=3 cell(10,3)=0",
        "cell(12,1)=3 cell(12,2)=2 cell(12,3)=6");
    edge(7, "groups of a full board", "game(0,6,6)=36", moves(FULL_RHOMB, 0, 35),
        "move(4)=1 cell(4,1)=13 cell(4,2)=13 cell(4,3)=4 cell(0,1)=1 cell(0,2)=5");
    edge(7, "the sides of a group of a TRIANGLE", "game(1,4,4)=10 move(3)=-1 move(9)=-1",
        "cell(3,2)=1 cell(9,2)=6 move(4)=-1 move(0)=-1 cell(4,2)=1 cell(0,2)=3 move(7)=-1",
        "move(2)=-1 cell(3,2)=5 cell(2,2)=3 cell(2,1)=2");
  }

  /** Each cell of each board, with one stone, by the words on sides. */
  private static void sidesOfEachCell() {
    for (int[] board : boards()) {
      int kind = board[0], rows = board[1], columns = board[2], cell = 0;
      StringBuilder calls = new StringBuilder();
      for (int r = 0; r < rows; r++) {
        for (int c = 0; c < (kind == TRIANGLE ? r + 1 : columns); c++) {
          calls.append("cell(" + cell + ",4)=" + r + " cell(" + cell + ",5)=" + c);
          calls.append(" move(" + cell + ")=-1 cell(" + cell + ",2)=");
          calls.append(sides(kind, rows, columns, r, c) + " undo()=0 ");
          cell++;
        }
      }
      edge(7, "the row, the column and the sides of a cell", begun(board), calls.toString());
    }
  }

  private static int sides(int kind, int rows, int columns, int r, int c) {
    int top = r == 0 ? 1 : 0, bottom = r == rows - 1 ? 1 : 0, left = c == 0 ? 1 : 0;
    if (kind == RHOMB) {
      return left + (c == columns - 1 ? 2 : 0) + 4 * top + 8 * bottom;
    }
    return kind == TRIANGLE ? left + (c == r ? 2 : 0) + 4 * bottom : top + 2 * bottom;
  }

  // ---- promise 8

  private static void neighbourArguments() {
    edge(8, "no such cell: one below the first, one behind the last", "neighbour(-1,0)=IOOBE",
        "neighbour(4,0)=IOOBE neighbour(0,0)=1 neighbour(3,3)=2 game(1,6,6)=21 neighbour(20,3)=19",
        "neighbour(21,3)=IOOBE game(2,6,6)=36 neighbour(35,0)=30 neighbour(36,0)=IOOBE",
        "neighbour(2147483647,0)=IOOBE neighbour(-2147483648,0)=IOOBE");
    edge(8, "direction: 0 to 5", "neighbour(3,0)=-1 neighbour(3,5)=-1 neighbour(0,-1)=IAE",
        "neighbour(0,6)=IAE neighbour(0,-2147483648)=IAE neighbour(0,2147483647)=IAE",
        "neighbour(3,7)=IAE neighbour(3,12)=IAE");
    edge(8, "no such cell is told first, ahead of direction", "neighbour(-1,-1)=IOOBE",
        "neighbour(4,6)=IOOBE neighbour(-1,6)=IOOBE neighbour(4,-1)=IOOBE");
    edge(8, "none: the corners of a RHOMB", "game(0,3,3)=9",
        "neighbour(0,0)=1 neighbour(0,1)=3 neighbour(0,2)=-1 neighbour(0,3)=-1 neighbour(0,4)=-1",
        "neighbour(0,5)=-1 neighbour(2,0)=-1 neighbour(2,1)=5 neighbour(2,2)=4 neighbour(2,3)=1",
        "neighbour(2,4)=-1 neighbour(2,5)=-1 neighbour(6,0)=7 neighbour(6,1)=-1 neighbour(6,2)=-1",
        "neighbour(6,3)=-1 neighbour(6,4)=3 neighbour(6,5)=4 neighbour(8,0)=-1 neighbour(8,1)=-1",
        "neighbour(8,2)=-1 neighbour(8,3)=7 neighbour(8,4)=5 neighbour(8,5)=-1");
    edge(8, "none: the corners of a TRIANGLE", "game(1,3,3)=6",
        "neighbour(0,0)=-1 neighbour(0,1)=2 neighbour(0,2)=1 neighbour(0,3)=-1 neighbour(0,4)=-1",
        "neighbour(0,5)=-1 neighbour(3,0)=4 neighbour(3,1)=-1 neighbour(3,2)=-1 neighbour(3,3)=-1",
        "neighbour(3,4)=-1 neighbour(3,5)=1 neighbour(5,0)=-1 neighbour(5,1)=-1 neighbour(5,2)=-1",
        "neighbour(5,3)=4 neighbour(5,4)=2 neighbour(5,5)=-1");
    edge(8, "behind the last column of a CYLINDER the first one comes again", "game(2,3,4)=12",
        "neighbour(3,0)=0 neighbour(7,0)=4 neighbour(11,0)=8 neighbour(0,3)=3 neighbour(4,3)=7",
        "neighbour(8,3)=11 neighbour(0,2)=7 neighbour(4,2)=11 neighbour(7,5)=0 neighbour(11,5)=4",
        "game(2,2,3)=6 neighbour(2,0)=0 neighbour(0,2)=5 neighbour(5,5)=0 neighbour(3,3)=5",
        "game(2,6,6)=36 neighbour(35,0)=30 neighbour(0,3)=5 neighbour(24,2)=35 neighbour(35,5)=24");
    edge(8, "a CYLINDER ends at its first and its last row", "game(2,3,4)=12 neighbour(0,4)=-1",
        "neighbour(3,5)=-1 neighbour(3,4)=-1 neighbour(8,1)=-1 neighbour(8,2)=-1",
        "neighbour(11,1)=-1");
  }

  /** Each cell of each board and each direction, by the table of the document. */
  private static void neighboursOfEachCell() {
    int[] rowSteps = {0, 1, 1, 0, -1, -1};
    int[] columnSteps = {1, 0, -1, -1, 0, 1}, triangleSteps = {1, 1, 0, -1, -1, 0};
    for (int[] board : boards()) {
      int kind = board[0], rows = board[1], columns = board[2];
      StringBuilder calls = new StringBuilder();
      for (int r = 0; r < rows; r++) {
        for (int i = 0; i < 6 * (kind == TRIANGLE ? r + 1 : columns); i++) {
          int c = i / 6, step = (kind == TRIANGLE ? triangleSteps : columnSteps)[i % 6];
          calls.append("neighbour(" + number(kind, columns, r, c) + "," + i % 6 + ")=");
          calls.append(at(kind, rows, columns, r + rowSteps[i % 6], c + step) + " ");
        }
      }
      edge(8, "the neighbours of all cells", begun(board), calls.toString());
    }
  }

  private static int number(int kind, int columns, int r, int c) {
    return kind == TRIANGLE ? r * (r + 1) / 2 + c : r * columns + c;
  }

  private static int at(int kind, int rows, int columns, int r, int c) {
    int column = kind == CYLINDER ? (c + columns) % columns : c;
    boolean is = r >= 0 && r < rows && column >= 0 && column < (kind == TRIANGLE ? r + 1 : columns);
    return is ? number(kind, columns, r, column) : -1;
  }
}
