/** Promises 9 to 15: for each sentence that names a boundary case, runs that hold to it. */
final class BestPlayEdges {
  private static final String WON_BY_0 = Script.WON_BY_0;
  private static final String WON_BY_1 = Script.WON_BY_1;

  /** Moves behind which just the cell 35 of a RHOMB is empty, and nobody has joined. */
  private static final int[] TO_THE_HIGHEST = {3, 22, 1, 18, 25, 21, 23, 11, 2, 13, 27, 17, 24, 8,
      34, 29, 12, 0, 26, 32, 7, 19, 10, 14, 9, 16, 6, 4, 33, 28, 20, 5, 31, 15, 30};

  /** Games that the player 1 wins by joining, with empty cells left: of each kind of board. */
  private static final String[] ONE_HAS_JOINED = {
    "game(0,2,3)=6 move(0)=-1 move(1)=-1 move(2)=-1 move(4)=1",
    "game(1,3,3)=6 move(0)=-1 swap()=0 move(4)=-1 move(2)=-1 move(3)=-1 move(5)=1",
    "game(2,3,3)=9 move(6)=-1 move(3)=-1 move(7)=-1 move(4)=-1 move(8)=-1 move(5)=1"
  };

  private BestPlayEdges() {
  }

  static void all() {
    nineAndTenEmptyCells();
    largeBoards();
    oneEmptyCellAndNone();
    somebodyHasJoined();
    lostOnTime();
    nobodySwaps();
    best();
    wins();
    lasts();
    dead();
    linkArguments();
    linkArgumentsInOrder();
    carriers();
    carriersOverTheSeam();
    answers();
    gaveAwayArguments();
    gaveAway();
  }

  private static void edge(int promise, String sentence, String... parts) {
    Script.edge(promise, sentence, parts);
  }

  // ---- promises 9 to 14: at most 9 empty cells

  private static void nineAndTenEmptyCells() {
    String few = "at most 9 empty cells: told of 9, refused of 10: ";
    edge(9, few + "a RHOMB", "game(0,2,5)=10 best()=ISE move(0)=-1 best()=1 undo()=0 best()=ISE",
        "game(0,5,2)=10 best()=ISE move(0)=-1 best()=0 game(0,3,3)=9 best()=0");
    edge(9, few + "a TRIANGLE", "game(1,4,4)=10 best()=ISE move(0)=-1 best()=1 move(4)=-1",
        "best()=1");
    edge(9, few + "a CYLINDER", "game(2,2,5)=10 best()=ISE move(0)=-1 best()=0 game(2,3,3)=9",
        "best()=0 game(2,3,4)=12 best()=ISE move(0)=-1 move(1)=-1 best()=ISE move(2)=-1 best()=0");
    edge(10, few + "a RHOMB", "game(0,2,5)=10 wins()=ISE move(0)=-1 wins()=1022 undo()=0",
        "wins()=ISE game(0,5,2)=10 wins()=ISE move(0)=-1 wins()=0 game(0,3,3)=9 wins()=214");
    edge(10, few + "a TRIANGLE", "game(1,4,4)=10 wins()=ISE move(0)=-1 wins()=16 move(9)=-1",
        "wins()=312");
    edge(10, few + "a CYLINDER", "game(2,2,5)=10 wins()=ISE move(0)=-1 wins()=0 game(2,3,3)=9",
        "wins()=511");
    edge(11, few + "a RHOMB", "game(0,2,5)=10 lasts()=ISE move(0)=-1 lasts()=3 undo()=0",
        "lasts()=ISE game(0,5,2)=10 lasts()=ISE move(0)=-1 lasts()=4 game(0,3,3)=9 lasts()=5");
    edge(11, few + "a TRIANGLE", "game(1,4,4)=10 lasts()=ISE move(0)=-1 lasts()=7 move(9)=-1",
        "lasts()=5");
    edge(11, few + "a CYLINDER", "game(2,2,5)=10 lasts()=ISE move(0)=-1 lasts()=2 game(2,3,3)=9",
        "lasts()=5");
    edge(12, few + "a RHOMB", "game(0,2,5)=10 dead()=ISE move(0)=-1 dead()=0 undo()=0 dead()=ISE",
        "game(0,5,2)=10 dead()=ISE move(0)=-1 dead()=0 game(0,3,3)=9 dead()=0");
    edge(12, few + "a TRIANGLE", "game(1,4,4)=10 dead()=ISE move(0)=-1 dead()=0");
    edge(12, few + "a CYLINDER", "game(2,2,5)=10 dead()=ISE move(0)=-1 dead()=0 game(2,3,3)=9",
        "dead()=0");
    edge(13, few + "a RHOMB", "game(0,2,5)=10 carrier(0,100,101)=ISE carrier(1,102,103)=ISE",
        "move(0)=-1 carrier(0,0,101)=-1 carrier(1,102,103)=238 undo()=0 carrier(1,102,103)=ISE");
    edge(13, few + "a TRIANGLE", "game(1,4,4)=10 carrier(0,100,101)=ISE move(4)=-1",
        "carrier(0,4,102)=384 carrier(0,100,101)=15 carrier(1,100,102)=-1");
    edge(13, few + "a CYLINDER", "game(2,2,5)=10 carrier(0,100,101)=ISE move(0)=-1",
        "carrier(0,0,101)=544 carrier(1,100,101)=238 game(2,3,3)=9 carrier(0,100,101)=511");
    edge(14, few + "a RHOMB", "game(0,2,5)=10 answer(0,100,101,0)=ISE move(2)=-1",
        "answer(0,2,103,6)=7 answer(0,2,103,7)=6 undo()=0 answer(1,102,103,0)=ISE");
    edge(14, few + "a TRIANGLE", "game(1,4,4)=10 answer(0,100,101,0)=ISE move(4)=-1",
        "answer(0,4,102,7)=8 answer(0,4,102,8)=7 answer(0,4,102,6)=-1");
    edge(14, few + "a CYLINDER", "game(2,2,5)=10 answer(0,100,101,0)=ISE move(0)=-1",
        "answer(0,0,101,5)=9 answer(0,0,101,9)=5 game(2,3,3)=9 answer(0,100,101,0)=1");
  }

  private static void largeBoards() {
    String few = "at most 9 empty cells of the largest boards: bits up to the highest one";
    edge(9, few, "game(0,6,6)=36", GameEdges.moves(GameEdges.FULL_RHOMB, 0, 26), "told(2)=10",
        "best()=ISE wins()=ISE lasts()=ISE dead()=ISE carrier(0,22,101)=ISE",
        "answer(0,22,101,1)=ISE move(34)=-1 best()=1 wins()=167839962 lasts()=1 dead()=167839938",
        "carrier(0,100,101)=-1 carrier(0,22,34)=0 carrier(0,34,103)=0 carrier(1,35,102)=-1",
        "answer(0,100,101,1)=-1 move(1)=-1 wins()=0 dead()=167839936");
    edge(10, few, "game(2,6,6)=36", GameEdges.moves(GameEdges.FULL_CYLINDER, 0, 26), "told(2)=10",
        "wins()=ISE move(24)=-1 wins()=528640 best()=1 lasts()=1 dead()=135334944",
        "carrier(0,100,101)=-1 carrier(1,100,101)=4352 undo()=26 wins()=ISE");
    edge(12, few, "game(1,6,6)=21", GameEdges.moves(GameEdges.FULL_TRIANGLE, 0, 11), "told(2)=10",
        "dead()=ISE move(20)=-1 dead()=0 wins()=26 best()=0 lasts()=3 carrier(0,100,101)=1050",
        "carrier(1,20,102)=0 undo()=11 dead()=ISE");
    edge(10, "sets of cells are told as bits: that of the cell 35 is the highest one",
        "game(0,6,6)=36", GameEdges.moves(TO_THE_HIGHEST, 0, 35), "wins()=34359738368 dead()=0",
        "fits(0,0)=IOOBE best()=1 carrier(0,101,103)=-1 carrier(1,29,103)=-1 tape(******)=",
        "pattern()=0 fits(0,0)=34359738368 fitsAnew(0,0)=34359738368 playedOut(0)=29252130510",
        "lasts()=1");
  }

  private static void oneEmptyCellAndNone() {
    String one = "one empty cell, and none: ";
    edge(9, one + "a RHOMB", "move(3)=-1 move(1)=-1 move(0)=-1 best()=1 move(2)=1 best()=1");
    edge(10, one + "a RHOMB", "move(3)=-1 move(1)=-1 move(0)=-1 wins()=4 move(2)=1 wins()=0");
    edge(11, one + "a RHOMB", "move(3)=-1 move(1)=-1 move(0)=-1 lasts()=1 move(2)=1 lasts()=0");
    edge(12, one + "a RHOMB", "move(3)=-1 move(1)=-1 move(0)=-1 dead()=0 move(2)=1 dead()=0");
    edge(13, one + "a RHOMB", "move(3)=-1 move(1)=-1 move(0)=-1 carrier(1,102,103)=-1",
        "carrier(0,3,101)=0 carrier(0,0,101)=-1 move(2)=1 carrier(1,102,103)=0",
        "carrier(0,100,101)=-1 carrier(1,1,2)=0");
    edge(14, one + "a RHOMB", "move(3)=-1 move(1)=-1 move(0)=-1 answer(1,102,103,2)=-1 move(2)=1",
        "answer(1,102,103,2)=-1 answer(0,100,101,0)=-1");
    edge(10, one + "a TRIANGLE", "game(1,2,2)=3 move(1)=-1 move(2)=-1 wins()=1 lasts()=1 best()=0",
        "dead()=0 move(0)=0 wins()=0 lasts()=0 best()=0 dead()=0");
    edge(10, one + "a CYLINDER", "game(2,2,3)=6 move(1)=-1 move(3)=-1 move(0)=-1 move(4)=-1",
        "move(2)=-1 wins()=32 lasts()=1 best()=1 dead()=0 move(5)=1 wins()=0 lasts()=0 best()=1",
        "dead()=0");
    edge(10, one + "who is to move there need not win", "game(1,2,2)=3 move(0)=-1 swap()=0",
        "move(1)=-1 wins()=4 best()=1 undo()=2 wins()=0 best()=1 lasts()=2");
  }

  private static void somebodyHasJoined() {
    edge(9, "who has joined, if somebody has", WON_BY_0, "best()=0", WON_BY_1, "best()=1",
        "game(1,3,3)=6 move(0)=-1 move(3)=-1 move(1)=-1 move(4)=-1 move(2)=-1 move(5)=1 best()=1",
        "game(2,3,3)=9 move(6)=-1 move(3)=-1 move(7)=-1 move(4)=-1 move(8)=-1 move(5)=1 best()=1");
    edge(9, "more than 9 empty cells are refused, also when somebody has joined",
        "game(0,6,2)=12 move(0)=-1 move(11)=-1 move(1)=0 told(2)=9 best()=0 game(0,4,4)=16",
        "move(0)=-1 move(15)=-1 move(1)=-1 move(14)=-1 move(2)=-1 move(13)=-1 move(3)=0 told(2)=9",
        "best()=0 game(2,2,6)=12 move(0)=-1 move(2)=-1 move(6)=0 told(2)=9 best()=0 wins()=0",
        "lasts()=0 game(2,2,6)=12 move(3)=-1 swap()=3 move(0)=-1 move(1)=-1 move(6)=0 told(2)=8",
        "best()=0 game(0,5,5)=25 move(0)=-1 move(24)=-1 move(1)=-1 move(23)=-1 move(2)=-1",
        "move(22)=-1 move(3)=-1 move(21)=-1 move(4)=0 told(2)=16 best()=ISE wins()=ISE",
        "lasts()=ISE dead()=ISE carrier(0,100,101)=ISE answer(0,100,101,7)=ISE gaveAway(8)=ISE",
        "told(3)=0");
    edge(9, "who has joined, if somebody has: the player 1, with cells left", ONE_HAS_JOINED[0],
        "best()=1", ONE_HAS_JOINED[1], "best()=1", ONE_HAS_JOINED[2], "best()=1");
    edge(10, "0 if somebody has joined: the player 1, with cells left", ONE_HAS_JOINED[0],
        "wins()=0", ONE_HAS_JOINED[1], "wins()=0", ONE_HAS_JOINED[2], "wins()=0");
    edge(11, "0 if somebody has joined: the player 1, with cells left", ONE_HAS_JOINED[0],
        "lasts()=0", ONE_HAS_JOINED[1], "lasts()=0", ONE_HAS_JOINED[2], "lasts()=0");
    edge(12, "all empty cells, if somebody has joined: the player 1", ONE_HAS_JOINED[0],
        "dead()=40", ONE_HAS_JOINED[1], "dead()=2", ONE_HAS_JOINED[2], "dead()=7");
    edge(10, "0 if somebody has joined", WON_BY_0, "wins()=0", WON_BY_1, "wins()=0",
        "game(2,2,3)=6 move(0)=-1 move(4)=-1 move(5)=0 told(2)=3 wins()=0");
    edge(11, "0 if somebody has joined", WON_BY_0, "lasts()=0", WON_BY_1, "lasts()=0",
        "game(2,2,3)=6 move(0)=-1 move(4)=-1 move(5)=0 told(2)=3 lasts()=0");
    edge(12, "all empty cells, if somebody has joined", WON_BY_0, "dead()=4",
        "game(2,2,3)=6 move(0)=-1 move(4)=-1 move(5)=0 dead()=14 game(0,3,3)=9 move(0)=-1",
        "move(8)=-1 move(1)=-1 move(7)=-1 move(2)=0 dead()=120 game(1,3,3)=6 move(3)=-1",
        "move(0)=-1 move(4)=-1 move(1)=-1 move(5)=0 dead()=4");
    edge(13, "told of a game that somebody has joined too", WON_BY_0, "carrier(0,100,101)=0",
        "carrier(0,0,103)=-1 carrier(1,3,102)=-1 carrier(1,102,103)=-1");
  }

  private static void lostOnTime() {
    String lost = "told whoever lost on time";
    String by0 = "clocks(1,0,1)=nothing think(2)=1 told(4)=1 ";
    String by1 = "clocks(1,0,1)=nothing move(1)=-1 think(2)=0 told(4)=0 ";
    edge(9, lost, by0, "best()=0 game(0,2,2)=4 clocks(1,0,1)=nothing move(0)=-1 think(2)=0",
        "best()=1");
    edge(10, lost, by0, "wins()=6 game(0,2,2)=4 clocks(1,0,1)=nothing move(0)=-1 think(2)=0",
        "wins()=2");
    edge(11, lost, by0, "lasts()=3 game(0,2,2)=4", by1, "lasts()=2");
    edge(12, lost, by1, "dead()=8 game(0,2,2)=4 clocks(1,0,1)=nothing move(0)=-1 move(3)=-1",
        "think(2)=1 dead()=4 wins()=2");
    edge(13, lost, by1, "carrier(0,1,100)=5 carrier(0,100,101)=5 carrier(0,1,103)=12");
    edge(14, lost, by1, "answer(0,1,100,0)=2 answer(0,1,100,2)=0 answer(0,1,100,3)=-1");
    edge(15, lost, "clocks(1,0,1)=nothing move(0)=-1 think(2)=0 gaveAway(0)=1 gaveAway(1)=IOOBE",
        "game(0,2,2)=4", by1, "gaveAway(0)=0");
  }

  private static void nobodySwaps() {
    String nobody = "nobody swaps in best play";
    edge(9, nobody, "move(1)=-1 best()=0 swap()=2 best()=1 game(0,3,3)=9 move(4)=-1 best()=0",
        "swap()=4 best()=1");
    edge(10, nobody, "move(1)=-1 wins()=0 swap()=2 wins()=0 undo()=1 wins()=0");
    edge(11, nobody, "move(1)=-1 lasts()=2 swap()=2 lasts()=2 game(1,2,2)=3 move(0)=-1 lasts()=2");
  }

  // ---- promises 9 to 12

  private static void best() {
    edge(9, "the player to move, if a move of it leads there, otherwise the other one",
        "best()=0 move(0)=-1 best()=1 move(3)=-1 best()=0 undo()=1 move(1)=-1 best()=1",
        "game(1,2,2)=3 best()=0 move(0)=-1 best()=0 swap()=0 best()=1");
    edge(9, "the smallest boards, empty", "game(0,2,2)=4 best()=0 game(1,2,2)=3 best()=0",
        "game(2,2,3)=6 best()=0 game(0,2,3)=6 best()=1 game(0,3,2)=6 best()=0");
    edge(9, "who is to move matters, not the stones alone",
        "move(0)=-1 swap()=0 move(1)=-1 best()=1 undo()=2 undo()=1 undo()=0 move(1)=-1 move(0)=-1",
        "best()=0 undo()=1 best()=0 undo()=0 move(0)=-1 best()=1");
  }

  private static void wins() {
    edge(10, "all moves, and none", "game(1,2,2)=3 wins()=7 move(1)=-1 wins()=0 game(2,2,3)=6",
        "wins()=63 move(3)=-1 wins()=0");
    edge(10, "a move by which it has joined is a win, beside others",
        "game(0,3,3)=9 move(4)=-1 move(0)=-1 move(5)=-1 move(8)=-1 wins()=206 lasts()=1 move(3)=0");
    edge(10, "no cell that is taken is among them", "game(0,3,3)=9 move(4)=-1 move(3)=-1 wins()=67",
        "move(6)=-1 wins()=0 move(5)=-1 wins()=388");
  }

  private static void lasts() {
    edge(11, "the number of moves until one has joined: one, two, three",
        "game(1,2,2)=3 lasts()=3 move(0)=-1 lasts()=2 move(1)=-1 lasts()=1 move(2)=0 lasts()=0");
    edge(11, "who wins chooses the fewest moves", "game(0,3,3)=9 move(4)=-1 move(0)=-1 lasts()=3",
        "move(3)=-1 lasts()=2 move(1)=-1 lasts()=1");
    edge(11, "the other one chooses the most moves", "game(0,3,3)=9 move(4)=-1 lasts()=4",
        "move(0)=-1 lasts()=3 undo()=1 move(3)=-1 lasts()=3 undo()=1 move(2)=-1 lasts()=3");
    edge(11, "as many moves as there are cells", "game(2,3,3)=9 lasts()=5 move(0)=-1 lasts()=6");
  }

  private static void dead() {
    edge(12, "none on an empty board", "dead()=0 game(1,3,3)=6 dead()=0 game(2,3,3)=9 dead()=0");
    edge(12, "however all others are filled, each of any number: the players need not be in turn",
        "game(0,3,3)=9 move(8)=-1 move(1)=-1 move(7)=-1 move(3)=-1 dead()=53 undo()=3 dead()=37",
        "undo()=2 dead()=1 undo()=1 dead()=0");
    edge(12, "behind a wall in the corner", "game(0,3,3)=9 move(8)=-1 move(1)=-1 move(5)=-1",
        "move(3)=-1 dead()=5 game(1,3,3)=6 move(1)=-1 move(5)=-1 move(2)=-1 dead()=1",
        "game(2,2,3)=6 move(0)=-1 move(1)=-1 dead()=0");
    edge(12, "cells that have stones are not told", "move(0)=-1 move(3)=-1 move(1)=0 dead()=4",
        "undo()=2 dead()=4 undo()=1 dead()=0");
  }

  // ---- promises 13 and 14

  private static void linkArguments() {
    for (int promise = 13; promise <= 14; promise++) {
      String link = promise == 13 ? "carrier" : "answer";
      String end = promise == 13 ? ")=" : ",0)=";
      edge(promise, "no such player: -1, 2", link + "(-1,100,101" + end + "IOOBE",
          link + "(2,100,101" + end + "IOOBE", link + "(-2147483648,100,101" + end + "IOOBE",
          link + "(2147483647,100,101" + end + "IOOBE", link + "(0,100,101" + end + "-1",
          link + "(1,100,101" + end + "-1");
      edge(promise, "no such cell, of either end: one below the first, one behind the last",
          "move(3)=-1 move(2)=-1", link + "(0,-1,101" + end + "IOOBE",
        link + "(0,4,101" + end + "IOOBE",
          link + "(0,101,-1" + end + "IOOBE", link + "(0,101,4" + end + "IOOBE",
          link + "(0,3,101" + end + (promise == 13 ? "0" : "-1"),
          link + "(0,-2147483648,101" + end + "IOOBE", link + "(0,101,2147483647" + end + "IOOBE");
      edge(promise, "no such side: 99, of a RHOMB 104", link + "(0,99,101" + end + "IOOBE",
          link + "(0,101,99" + end + "IOOBE", link + "(0,104,101" + end + "IOOBE",
          link + "(0,100,104" + end + "IOOBE", link + "(0,100,103" + end + "-1",
          link + "(0,36,100" + end + "IOOBE", link + "(0,200,100" + end + "IOOBE");
      edge(promise, "no such side: of a TRIANGLE 103", "game(1,2,2)=3",
          link + "(0,103,101" + end + "IOOBE", link + "(0,100,103" + end + "IOOBE",
          link + "(0,100,102" + end + "-1", link + "(0,99,100" + end + "IOOBE");
      edge(promise, "no such side: of a CYLINDER 102", "game(2,3,3)=9 move(0)=-1",
          link + "(0,102,101" + end + "IOOBE", link + "(0,100,102" + end + "IOOBE",
          link + "(0,99,100" + end + "IOOBE",
        link + "(0,0,100" + end + (promise == 13 ? "0" : "-1"));
      edge(promise, "both ends are the same: sides, a cell", link + "(0,100,100" + end + "IAE",
          link + "(1,103,103" + end + "IAE", "move(0)=-1", link + "(0,0,0" + end + "IAE",
          link + "(1,1,1" + end + "IAE");
      edge(promise, "one is a cell without a stone of that player: empty", "move(0)=-1",
          link + "(0,1,101" + end + "IAE", link + "(0,101,1" + end + "IAE",
          link + "(0,0,3" + end + "IAE", link + "(0,3,0" + end + "IAE",
        link + "(1,2,3" + end + "IAE");
      edge(promise, "one is a cell without a stone of that player: a stone of the other one",
          "move(0)=-1 move(3)=-1", link + "(1,0,101" + end + "IAE", link + "(1,101,0" + end + "IAE",
          link + "(0,3,0" + end + "IAE", link + "(0,0,3" + end + "IAE");
    }
    edge(14, "no such cell: one below the first, one behind the last", "answer(0,100,101,-1)=IOOBE",
        "answer(0,100,101,4)=IOOBE answer(0,100,101,3)=-1 answer(0,100,101,-2147483648)=IOOBE",
        "answer(0,100,101,2147483647)=IOOBE answer(0,100,101,100)=IOOBE game(1,3,3)=6",
        "answer(0,100,101,5)=0 answer(0,100,101,6)=IOOBE answer(0,100,101,64)=IOOBE");
  }

  private static void linkArgumentsInOrder() {
    for (int promise = 13; promise <= 14; promise++) {
      String link = promise == 13 ? "carrier" : "answer";
      String end = promise == 13 ? ")=" : ",0)=";
      edge(promise, "no such player is told first, ahead of ends that are the same, or not its own",
          link + "(2,100,100" + end + "IOOBE", link + "(-1,0,100" + end + "IOOBE", "game(0,4,4)=16",
          link + "(2,100,101" + end + "IOOBE", link + "(2,100,100" + end + "IOOBE");
      edge(promise, "no such cell or side is told first, ahead of ends that are the same, or empty",
          link + "(0,4,4" + end + "IOOBE", link + "(0,104,104" + end + "IOOBE",
          link + "(0,0,104" + end + "IOOBE", link + "(0,104,0" + end + "IOOBE",
          link + "(0,-1,0" + end + "IOOBE", "game(0,4,4)=16", link + "(0,16,16" + end + "IOOBE",
          link + "(0,100,104" + end + "IOOBE", link + "(0,5,99" + end + "IOOBE");
      edge(promise, "the same ends, or one not its own, are told ahead of more than 9 empty cells",
          "game(0,2,5)=10", link + "(0,100,100" + end + "IAE", link + "(0,3,100" + end + "IAE",
          link + "(0,100,3" + end + "IAE", link + "(0,3,3" + end + "IAE",
          link + "(0,100,101" + end + "ISE", "game(2,6,6)=36 move(7)=-1",
          link + "(1,7,100" + end + "IAE", link + "(0,7,7" + end + "IAE",
        link + "(0,7,100" + end + "ISE");
    }
    edge(14, "no such cell is told first, ahead of all others", "answer(0,100,100,4)=IOOBE",
        "answer(0,0,100,-1)=IOOBE game(0,2,5)=10 answer(0,100,101,10)=IOOBE",
        "answer(0,100,100,10)=IOOBE answer(0,100,101,-1)=IOOBE answer(0,100,101,9)=ISE",
        "answer(0,100,100,9)=IAE");
  }

  private static void carriers() {
    edge(13, "empty if the ends are joined: a side by one stone, two cells, two sides",
        "move(0)=-1 carrier(0,0,100)=0 carrier(0,100,0)=0 carrier(0,0,102)=0 carrier(0,100,102)=0",
        "move(3)=-1 carrier(1,3,101)=0 carrier(1,101,103)=0 move(1)=0 carrier(0,0,1)=0",
        "carrier(0,100,101)=0 carrier(0,0,101)=0 carrier(0,1,100)=0");
    edge(13, "empty if the ends are joined: all sides of a TRIANGLE",
        "game(1,2,2)=3 move(1)=-1 move(2)=-1 move(0)=0 carrier(0,100,101)=0 carrier(0,101,102)=0",
        "carrier(0,0,1)=0 carrier(0,1,101)=0 carrier(1,101,102)=0 carrier(1,2,100)=-1");
    edge(13, "if there is none, there is no link", "carrier(0,100,101)=-1 carrier(1,102,103)=-1",
        "move(0)=-1 move(1)=-1 carrier(0,0,101)=-1 carrier(0,100,101)=-1 carrier(1,1,103)=12");
    edge(13, "no link by one cell that both want", "game(0,2,3)=6 move(0)=-1 move(3)=-1 move(2)=-1",
        "move(4)=-1 carrier(0,0,2)=-1 carrier(0,100,101)=-1 wins()=2 move(1)=0 carrier(0,0,2)=0",
        "game(0,3,3)=9 move(3)=-1 move(0)=-1 move(5)=-1 move(1)=-1 move(7)=-1 move(2)=-1",
        "carrier(0,3,5)=80 carrier(0,3,7)=80 carrier(0,7,5)=0");
    edge(13, "the fewest cells: not the cells of a wider way",
        "game(0,3,3)=9 move(4)=-1 carrier(0,4,101)=36 carrier(0,4,100)=72 carrier(0,4,102)=6",
        "carrier(0,4,103)=192 carrier(0,100,101)=108 carrier(0,102,103)=198 carrier(1,102,103)=-1");
    edge(13, "of several the lowest as a number",
        "game(0,3,3)=9 move(1)=-1 swap()=3 move(4)=-1 carrier(0,4,101)=36 carrier(1,3,103)=-1",
        "carrier(1,3,102)=3 game(0,2,3)=6 move(0)=-1 move(5)=-1 carrier(0,0,101)=-1",
        "carrier(0,0,103)=-1 carrier(1,5,102)=-1");
    edge(13, "all other empty cells staying empty: the ends are joined within the set",
        "game(0,3,3)=9 move(1)=-1 move(0)=-1 move(5)=-1 carrier(0,1,5)=20 move(2)=-1",
        "carrier(0,1,5)=-1 move(4)=-1 carrier(0,1,5)=0");
    edge(13, "the ends in either order", "game(0,3,3)=9 move(4)=-1 move(0)=-1 move(2)=-1",
        "carrier(0,2,4)=0 carrier(0,4,2)=0 carrier(0,100,2)=72 carrier(0,2,100)=72");
    edge(13, "of the player who has not to move too", "game(0,3,3)=9 move(4)=-1",
        "carrier(0,4,100)=72 move(0)=-1 carrier(0,4,100)=72 carrier(1,0,100)=0",
        "carrier(1,0,103)=-1 carrier(1,0,101)=-1");
    edge(13, "all 9 empty cells", "game(2,3,3)=9 carrier(0,100,101)=511 carrier(1,100,101)=511");
  }

  private static void carriersOverTheSeam() {
    edge(13, "over the seam of a CYLINDER", "game(2,2,4)=8 move(0)=-1 carrier(0,0,101)=144",
        "move(4)=-1 carrier(0,0,101)=238 move(3)=-1 carrier(0,3,101)=192 carrier(0,0,101)=192",
        "carrier(0,0,3)=0 answer(0,0,101,6)=7 answer(0,0,101,7)=6");
    edge(13, "on a RHOMB there is no seam", "game(0,2,4)=8 move(0)=-1 carrier(0,0,103)=-1",
        "undo()=0 move(1)=-1 carrier(0,1,103)=48");
    edge(14, "over the seam of a CYLINDER", "game(2,2,4)=8 move(0)=-1 answer(0,0,101,4)=7",
        "answer(0,0,101,7)=4 answer(0,0,101,5)=-1");
  }

  private static void answers() {
    edge(14, "none if there is no link", "answer(0,100,101,0)=-1 move(0)=-1 move(1)=-1",
        "answer(0,0,101,2)=-1 answer(0,0,101,3)=-1 answer(1,1,103,2)=3");
    edge(14, "none if the cell is not in the carrier: empty, own, of the other player",
        "game(0,3,3)=9 move(4)=-1 move(8)=-1 answer(0,4,100,3)=6 answer(0,4,100,6)=3",
        "answer(0,4,100,0)=-1 answer(0,4,100,4)=-1 answer(0,4,100,8)=-1 answer(0,4,100,7)=-1");
    edge(14, "none if the carrier is empty", "move(0)=-1 answer(0,0,100,0)=-1 answer(0,0,100,1)=-1",
        "answer(0,100,102,2)=-1");
    edge(14, "the lowest cell of the carrier with which the ends can still be joined",
        "game(2,3,3)=9 answer(0,100,101,0)=1 answer(0,100,101,1)=0 answer(0,100,101,2)=0",
        "answer(0,100,101,3)=4 answer(0,100,101,4)=3 answer(0,100,101,5)=3 answer(0,100,101,6)=3",
        "answer(0,100,101,7)=3 answer(0,100,101,8)=3 answer(1,100,101,0)=1 answer(1,100,101,4)=3");
    edge(14, "the answer is in the carrier, if a lower cell beside it would do as well",
        "game(0,3,3)=9 move(4)=-1 answer(0,100,101,2)=5 answer(0,100,101,5)=2",
        "answer(0,100,101,3)=6 answer(0,100,101,6)=3 answer(0,102,103,1)=2 answer(0,102,103,7)=6");
    edge(14, "the ends in either order", "game(0,3,3)=9 move(4)=-1 answer(0,100,4,3)=6",
        "answer(0,101,100,2)=5 answer(1,103,102,0)=-1");
  }

  // ---- promise 15

  private static void gaveAwayArguments() {
    edge(15, "no such move: -1, one behind the last", "gaveAway(0)=IOOBE move(0)=-1",
        "gaveAway(-1)=IOOBE gaveAway(1)=IOOBE gaveAway(0)=1 move(3)=-1 gaveAway(1)=1",
        "gaveAway(2)=IOOBE undo()=1 gaveAway(1)=IOOBE undo()=0 gaveAway(0)=IOOBE",
        "gaveAway(2147483647)=IOOBE gaveAway(-2147483648)=IOOBE");
    edge(15, "the swap", "move(1)=-1 swap()=2 gaveAway(1)=IAE gaveAway(0)=0 gaveAway(2)=IOOBE",
        "move(0)=-1 gaveAway(1)=IAE gaveAway(2)=0 undo()=2 undo()=1 gaveAway(1)=IOOBE move(3)=-1",
        "gaveAway(1)=0");
    edge(15, "more than 9 cells were empty ahead of it",
        "game(0,2,5)=10 move(0)=-1 gaveAway(0)=ISE move(1)=-1 gaveAway(1)=0 gaveAway(0)=ISE",
        "move(2)=-1 gaveAway(2)=0 gaveAway(0)=ISE game(0,3,3)=9 move(0)=-1 gaveAway(0)=1",
        "game(1,4,4)=10 move(4)=-1 gaveAway(0)=ISE move(0)=-1 gaveAway(1)=0 game(2,2,5)=10",
        "move(4)=-1 gaveAway(0)=ISE move(0)=-1 gaveAway(1)=0");
    edge(15, "more than 9 cells were empty ahead of it: behind a swap there is one more",
        "game(0,2,5)=10 move(2)=-1 swap()=2 gaveAway(0)=ISE gaveAway(1)=IAE move(7)=-1",
        "gaveAway(2)=0 game(1,4,4)=10 move(4)=-1 swap()=4 move(0)=-1 gaveAway(2)=0",
        "gaveAway(1)=IAE game(0,3,4)=12 move(5)=-1 swap()=5 move(0)=-1 gaveAway(2)=ISE move(1)=-1",
        "gaveAway(3)=ISE move(2)=-1 gaveAway(4)=0");
    edge(15, "the swap is told ahead of more than 9 empty cells",
        "game(0,6,6)=36 move(5)=-1 swap()=30 gaveAway(1)=IAE gaveAway(0)=ISE gaveAway(2)=IOOBE");
    edge(15, "no such move is told first", "gaveAway(1)=IOOBE game(0,6,6)=36 gaveAway(0)=IOOBE",
        "move(0)=-1 gaveAway(1)=IOOBE gaveAway(0)=ISE gaveAway(-1)=IOOBE");
  }

  private static void gaveAway() {
    edge(15, "who made it won ahead of it, and the other one behind it",
        "move(0)=-1 gaveAway(0)=1 move(3)=-1 gaveAway(1)=1 move(1)=0 gaveAway(2)=0 gaveAway(1)=1",
        "gaveAway(0)=1 undo()=2 move(2)=-1 gaveAway(2)=1 move(1)=1 gaveAway(3)=0 gaveAway(2)=1");
    edge(15, "a move that kept the win, one that could not lose it", "move(1)=-1 gaveAway(0)=0",
        "move(0)=-1 gaveAway(1)=0 move(2)=0 gaveAway(2)=0");
    edge(15, "the first move, though its stone was swapped then",
        "move(0)=-1 swap()=0 gaveAway(0)=1 move(3)=-1 gaveAway(0)=1 gaveAway(2)=1 undo()=2",
        "move(2)=-1 gaveAway(2)=0 gaveAway(0)=1 game(0,2,2)=4 move(1)=-1 swap()=2 gaveAway(0)=0",
        "move(3)=-1 gaveAway(0)=0 gaveAway(2)=0");
    edge(15, "the last move of a full board", "game(1,2,2)=3 move(0)=-1 swap()=0 move(1)=-1",
        "move(2)=1 gaveAway(3)=0 gaveAway(2)=0 gaveAway(0)=0 gaveAway(4)=IOOBE game(2,2,3)=6",
        "move(1)=-1 move(3)=-1 move(0)=-1 move(4)=-1 move(2)=-1 move(5)=1 gaveAway(5)=0",
        "gaveAway(4)=1 gaveAway(3)=0 gaveAway(2)=0 gaveAway(1)=0 gaveAway(0)=0");
    edge(15, "number is a move's, and tells of no later one", "game(0,3,3)=9 move(4)=-1",
        "gaveAway(0)=0 move(0)=-1 gaveAway(0)=0 move(8)=-1 gaveAway(2)=0 move(2)=-1 gaveAway(3)=0",
        "gaveAway(2)=0 gaveAway(1)=0");
  }
}
