/** Promises 16 to 18: for each sentence that names a boundary case, runs that hold to it. */
final class PlayingOutEdges {
  private static final String WON_BY_0 = Script.WON_BY_0;
  private static final String WON_BY_1 = Script.WON_BY_1;

  private PlayingOutEdges() {
  }

  static void all() {
    farArguments();
    farOnBoards();
    farMeets();
    playsArguments();
    playedOutArguments();
    playsSeedsOneByOne();
    playingOutDraws();
    playingOutFromThePosition();
    bridges();
    bridgesOnNarrowBoards();
  }

  private static void edge(int promise, String sentence, String... parts) {
    Script.edge(promise, sentence, parts);
  }

  // ---- promise 16

  private static void farArguments() {
    edge(16, "no such player: -1, 2", "far(-1)=IOOBE far(2)=IOOBE far(0)=2 far(1)=2",
        "far(-2147483648)=IOOBE far(2147483647)=IOOBE game(1,3,3)=6 far(2)=IOOBE far(1)=3");
    edge(16, "not told of the player 1 on a CYLINDER", "game(2,3,3)=9 far(1)=ISE far(0)=3",
        "move(0)=-1 far(1)=ISE far(0)=2 game(1,3,3)=6 far(1)=3 game(0,3,3)=9 far(1)=3");
    edge(16, "not told of the player 1 on a CYLINDER, when somebody has joined either",
        "game(2,2,3)=6 move(0)=-1 move(4)=-1 move(5)=0 far(0)=0 far(1)=ISE game(2,2,3)=6",
        "move(0)=-1 move(3)=-1 move(1)=-1 move(4)=-1 move(2)=-1 move(5)=1 far(0)=-1 far(1)=ISE");
    edge(16, "no such player is told first, on a CYLINDER too", "game(2,3,3)=9 far(2)=IOOBE",
        "far(-1)=IOOBE far(1)=ISE");
  }

  private static void farOnBoards() {
    edge(16, "the fewest cells of an empty board, the smallest and the largest",
        "game(0,2,2)=4 far(0)=2 far(1)=2 game(0,6,6)=36 far(0)=6 far(1)=6 game(0,2,6)=12 far(0)=6",
        "far(1)=2 game(0,6,2)=12 far(0)=2 far(1)=6 game(1,2,2)=3 far(0)=2 far(1)=2 game(1,6,6)=21",
        "far(0)=6 far(1)=6 game(2,2,3)=6 far(0)=2 game(2,6,6)=36 far(0)=6 game(2,6,3)=18 far(0)=6",
        "game(2,2,6)=12 far(0)=2");
    edge(16, "0 if the player has joined", WON_BY_0, "far(0)=0", WON_BY_1, "far(1)=0",
        "game(1,2,2)=3 move(1)=-1 move(0)=-1 move(2)=0 far(0)=0 far(1)=-1");
    edge(16, "NONE if it cannot join any more", WON_BY_0, "far(1)=-1", WON_BY_1, "far(0)=-1",
        "game(2,3,3)=9 move(6)=-1 move(3)=-1 move(7)=-1 move(4)=-1 move(8)=-1 far(0)=2 move(5)=1",
        "far(0)=-1");
    edge(16, "of a full board 0 or NONE", "game(0,6,6)=36",
        GameEdges.moves(GameEdges.FULL_RHOMB, 0, 35), "far(0)=1 far(1)=1 move(4)=1 far(0)=-1",
        "far(1)=0",
        "game(1,6,6)=21", GameEdges.moves(GameEdges.FULL_TRIANGLE, 0, 20), "far(0)=1 far(1)=1",
        "move(4)=0 far(0)=0 far(1)=-1", "game(2,6,6)=36",
        GameEdges.moves(GameEdges.FULL_CYLINDER, 0, 35), "far(0)=1 move(8)=1 far(0)=-1");
    edge(16, "its own stones cost nothing, those of the other one are no way",
        "game(0,3,3)=9 move(4)=-1 far(0)=2 far(1)=3 move(0)=-1 far(1)=2 move(3)=-1 far(0)=1",
        "move(5)=-1 far(0)=1 far(1)=2 move(1)=-1 far(1)=2");
    edge(16, "a wall of the other one is gone round",
        "game(0,4,4)=16 move(0)=-1 move(1)=-1 move(15)=-1 move(5)=-1 far(0)=3 far(1)=2",
        "move(14)=-1 move(9)=-1 far(0)=2 far(1)=1");
    edge(16, "stones of the other one that leave one way, and none",
        "game(0,2,3)=6 move(0)=-1 move(3)=-1 move(1)=-1 far(0)=1 far(1)=2 move(4)=-1 far(0)=1",
        "far(1)=1 move(2)=0 far(0)=0 far(1)=-1 undo()=4 undo()=3 move(2)=-1 far(0)=2 far(1)=1");
    edge(16, "one way in: the lowest cell of the side, the highest one", "move(3)=-1 move(2)=-1",
        "far(0)=2 undo()=1 undo()=0 move(1)=-1 move(0)=-1 far(0)=1 far(1)=1 game(0,2,3)=6",
        "move(5)=-1 move(3)=-1 far(0)=3 game(0,3,2)=6 move(5)=-1 move(0)=-1 move(1)=-1 far(1)=2");
    edge(16, "told of a game that was lost on time", "clocks(1,0,1)=nothing think(2)=1 far(0)=2",
        "far(1)=2");
    edge(16, "over the seam of a CYLINDER", "game(2,3,4)=12 move(0)=-1 move(4)=-1 move(10)=-1",
        "far(0)=1 move(7)=-1 far(0)=2 game(2,3,6)=18 move(6)=-1 move(0)=-1 move(17)=-1 far(0)=1",
        "move(1)=-1 far(0)=2");
  }

  private static void farMeets() {
    edge(16, "on a TRIANGLE three ways that meet in an empty cell count it once",
        "game(1,5,5)=15 move(3)=-1 move(0)=-1 move(13)=-1 move(1)=-1 move(9)=-1 far(0)=2",
        "game(1,4,4)=10 move(3)=-1 move(0)=-1 move(8)=-1 move(9)=-1 move(2)=-1 far(0)=1 far(1)=3");
    edge(16, "on a TRIANGLE three ways that meet in its own group",
        "game(1,6,6)=21 move(12)=-1 far(0)=5 move(0)=-1 far(0)=5 move(7)=-1 far(0)=4 move(20)=-1",
        "far(0)=4 far(1)=4 move(15)=-1 far(1)=4");
    edge(16, "on a TRIANGLE a corner is at two sides", "game(1,3,3)=6 move(4)=-1 far(0)=2",
        "move(3)=-1 far(0)=2 far(1)=2 move(5)=-1 far(0)=1 far(1)=2");
    edge(16, "on a TRIANGLE as far as its rows say: each of them",
        "game(1,2,2)=3 far(0)=2 game(1,3,3)=6 far(0)=3 game(1,4,4)=10 far(0)=4 game(1,5,5)=15",
        "far(0)=5 game(1,6,6)=21 far(0)=6");
  }

  // ---- promises 17 and 18

  private static void playsArguments() {
    edge(17, "seed: 0 to 1000000", "plays(0,1)=0 plays(1000000,1)=0 plays(-1,1)=IAE",
        "plays(1000001,1)=IAE plays(-2147483648,1)=IAE plays(2147483647,1)=IAE plays(999999,2)=0",
        "plays(1000000,50)=20");
    edge(17, "times: 1 to 50", "plays(0,1)=0 plays(0,50)=22 plays(0,0)=IAE plays(0,51)=IAE",
        "plays(0,-1)=IAE plays(0,-2147483648)=IAE plays(0,2147483647)=IAE");
    edge(17, "somebody has joined: either player", WON_BY_0, "plays(0,1)=ISE plays(1000000,50)=ISE",
        "undo()=2 plays(0,1)=1", WON_BY_1, "plays(0,1)=ISE undo()=3 plays(0,50)=0");
    edge(17, "somebody has joined: on a full board somebody has", "game(1,2,2)=3 move(1)=-1",
        "move(2)=-1 plays(5,50)=50 move(0)=0 plays(5,50)=ISE");
    edge(17, "seed or times out of range is told ahead of somebody who has joined", WON_BY_0,
        "plays(-1,1)=IAE plays(1000001,1)=IAE plays(0,0)=IAE plays(0,51)=IAE plays(0,1)=ISE");
    edge(17, "lost on time is not joined: it is told", "clocks(1,0,1)=nothing think(2)=1",
        "plays(0,50)=22");
  }

  private static void playedOutArguments() {
    edge(18, "seed: 0 to 1000000", "playedOut(0)=5 playedOut(1000000)=5 playedOut(-1)=IAE",
        "playedOut(1000001)=IAE playedOut(-2147483648)=IAE playedOut(2147483647)=IAE",
        "playedOut(1)=12");
    edge(18, "somebody has joined: either player", WON_BY_0, "playedOut(0)=ISE undo()=2",
        "playedOut(0)=3",
        WON_BY_1, "playedOut(1000000)=ISE undo()=3 playedOut(1000000)=9");
    edge(18, "seed out of range is told ahead of somebody who has joined", WON_BY_0,
        "playedOut(-1)=IAE",
        "playedOut(1000001)=IAE playedOut(0)=ISE", WON_BY_1, "playedOut(-1)=IAE playedOut(5)=ISE");
    edge(18, "lost on time is not joined: it is told, from who is to move",
        "clocks(1,0,1)=nothing move(1)=-1 think(2)=0 playedOut(0)=6 playedOut(1)=3");
  }

  private static void playsSeedsOneByOne() {
    Script.count(17);
    Linkcourt court = new Linkcourt();
    court.game(Linkcourt.RHOMB, 5, 5);
    court.move(7);
    int joined = 0;
    for (int seed = 1000; seed < 1050; seed++) {
      joined += court.plays(seed, 1);
    }
    Script.that(17, joined == court.plays(1000, 50) && joined > 0 && joined < 50,
        "with the seeds from one on, one by one: 50 times is 50 times once");
    edge(17, "with the seeds from one on, one by one: the last one may be above 1000000",
        "game(0,3,3)=9 move(2)=-1 plays(999998,1)=0 plays(999999,1)=1 plays(1000000,1)=1",
        "plays(999998,3)=2 plays(1000000,2)=2 plays(1000000,50)=36");
    edge(17, "in none, and in all of them", "move(3)=-1 move(1)=-1 move(0)=-1 plays(7,50)=0",
        "plays(0,1)=0 game(1,2,2)=3 move(1)=-1 move(2)=-1 plays(7,50)=50 plays(0,1)=1");
  }

  // ---- how it is drawn

  private static void playingOutDraws() {
    edge(18, "the number x: multiplied, modulo 2147483648, its 65536th part rounded down, modulo n",
        // 0, 12345, 1406932606, 654583775: 0 of 4, 21468 modulo 3 is 0, 9988 modulo 2 is 0
        "playedOut(0)=5",
        // 1103527590: 16838 modulo 4 is 2; then 2524885223 less 2147483648: 5758 modulo 3 is 1
        outs(1, 12, 5, 12, 10, 10), outs(999998, 12, 5, 5),
        "game(0,6,6)=36", outs(0, 21403046083L, 65168181363L, 18041622313L, 36242117371L),
        outs(999998, 62001415976L, 62589756469L, 32043538960L), "game(1,6,6)=21",
        outs(65535, 1737651, 1925227), "game(1,3,3)=6", outs(0, 7, 38, 38, 35, 56, 19, 28, 49));
    edge(18, "drawn below how many are empty: one of them is sure",
        "move(3)=-1 move(1)=-1 move(0)=-1 playedOut(0)=9 playedOut(1)=9 playedOut(1000000)=9",
        "game(1,2,2)=3 move(1)=-1 move(2)=-1 playedOut(0)=3 playedOut(77)=3");
    edge(18, "the same seed again gives the same, whatever was asked between",
        "game(0,4,4)=16 playedOut(5)=42900 plays(9,9)=4 playedOut(6)=59748 playedOut(5)=42900",
        "plays(9,9)=4");
  }

  private static void playingOutFromThePosition() {
    edge(18, "from the position as it is: who is to move moves first",
        "game(0,3,3)=9 playedOut(3)=369 move(4)=-1 playedOut(3)=55 swap()=4 playedOut(3)=456",
        "undo()=1 undo()=0 playedOut(3)=369");
    edge(18, "until no cell is empty, whoever has joined in between",
        "game(0,3,3)=9 move(0)=-1 move(8)=-1 move(1)=-1 move(7)=-1 playedOut(0)=55",
        "playedOut(1)=47 playedOut(2)=103 playedOut(4)=31 plays(0,50)=38");
    edge(18, "the position itself stays", "game(0,3,3)=9 move(4)=-1 playedOut(3)=55 told(2)=8",
        "cell(0,0)=-1 told(1)=1 told(0)=1 undo()=0");
  }

  /** What playedOut is due to answer with the seeds from one on. */
  private static String outs(int from, long... sets) {
    StringBuilder calls = new StringBuilder();
    for (int i = 0; i < sets.length; i++) {
      calls.append("playedOut(").append(from + i).append(")=").append(sets[i]).append(' ');
    }
    return calls.toString();
  }

  private static void bridges() {
    // the player 0 has 1 and 5, a bridge over 2 and 4; the player 1 is to move
    String bridge = "game(0,3,3)=9 move(1)=-1 move(0)=-1 move(5)=-1 ";
    edge(18, "a bridge that is broken is mended, without drawing", bridge,
        outs(0, 242, 110, 302, 242, 62, 242, 230, 314, 302, 122, 422, 314));
    edge(18, "a bridge of the player 1 that is broken is mended too",
        "game(0,3,3)=9 move(8)=-1 move(1)=-1 move(7)=-1 move(5)=-1",
        outs(0, 409, 409, 465, 409, 457, 453, 453, 465));
    edge(18, "the stone that the other player put last in this playing out: not one put before",
        bridge, "move(2)=-1", outs(0, 234, 186, 426, 234, 122, 314, 242, 434));
    edge(18, "of several the lowest: one stone breaks two bridges",
        "game(2,6,6)=36", outs(4, 42520157076L, 25806368486L, 27614603360L, 16563510407L,
            51790476160L, 11063402086L), "game(0,4,4)=16 move(5)=-1 move(0)=-1 move(10)=-1",
        "move(3)=-1",
        outs(14, 42662, 30384, 46944, 44386, 10164, 15476, 60528, 28576, 29936, 18230, 44272,
            30500));
    edge(18, "behind a swap", "game(0,4,4)=16 move(1)=-1 swap()=4 move(5)=-1",
        outs(0, 14638, 58728, 42157, 21411, 53986, 58470, 3561, 44137));
    edge(18, "bridges on a TRIANGLE", "game(1,5,5)=15 move(4)=-1",
        outs(0, 7326, 25276, 1751, 10707, 26994, 29238, 1785, 18233), "game(1,6,6)=21",
        outs(0, 712003, 432317, 740531, 1588790), outs(34, 838897));
  }

  private static void bridgesOnNarrowBoards() {
    edge(18, "just two neighbours in common: on a CYLINDER of three columns two cells have four",
        "game(2,3,3)=9 move(0)=-1 move(1)=-1 move(5)=-1", outs(0, 481, 229, 229, 241, 61, 369),
        "game(2,6,3)=18", outs(0, 205049, 134574, 183109, 161665, 210204, 181403, 48453, 72156));
    edge(18, "a bridge over the seam of a CYLINDER, of four columns within a row too",
        "game(2,2,4)=8 move(0)=-1 move(1)=-1 move(2)=-1",
        outs(0, 149, 165, 53, 197, 197, 101, 141, 45),
        "game(2,3,4)=12 move(0)=-1 move(1)=-1 move(2)=-1",
        outs(0, 1445, 605, 125, 1133, 717, 2109, 1133, 2637));
    edge(18, "no bridge: neighbours, and two cells with one neighbour in common",
        "game(0,2,5)=10 move(2)=-1 move(1)=-1 move(8)=-1",
        outs(0, 812, 916, 796, 460, 901, 364, 333, 316),
        "game(0,4,4)=16 move(5)=-1 move(0)=-1 move(8)=-1 move(3)=-1 move(10)=-1 move(15)=-1",
        "move(2)=-1",
        outs(40, 7974, 28452, 15716, 8100, 28452, 22372, 30500, 30052));
  }
}
