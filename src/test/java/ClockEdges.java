/** Promises 25 to 30: for each sentence that names a boundary case, runs that hold to it. */
final class ClockEdges {
  private static final String WON_BY_0 = Script.WON_BY_0;
  private static final String WON_BY_1 = Script.WON_BY_1;
  private static final String TEN = " person()=0 person()=1 person()=2 person()=3 person()=4"
      + " person()=5 person()=6 person()=7 person()=8 person()=9 ";

  private ClockEdges() {
  }

  static void all() {
    clocksArguments();
    clocksRefused();
    clocksOfBoth();
    thinkArguments();
    thinkRefused();
    seconds();
    periods();
    withoutPeriods();
    givenBack();
    takenBack();
    lostOnTime();
    clockArguments();
    clockTold();
    person();
    recordArguments();
    recordRefused();
    ratings();
    atLeastOneAtMostThirtyOne();
    ladder();
    ofPerson();
  }

  private static void edge(int promise, String sentence, String... parts) {
    Script.edge(promise, sentence, parts);
  }

  /** What the clock of a player tells. */
  private static String clock(int player, int seconds, int periods, int used) {
    return " clock(" + player + ",0)=" + seconds + " clock(" + player + ",1)=" + periods + " clock("
        + player + ",2)=" + used + " ";
  }

  // ---- promise 25

  private static void clocksArguments() {
    edge(25, "seconds: 0 to 3600", "clocks(-1,1,1)=IAE clocks(3601,1,1)=IAE",
        "clocks(-2147483648,1,1)=IAE",
        "clocks(2147483647,1,1)=IAE clocks(3600,1,1)=nothing", clock(0, 3600, 1, 0),
        "game(0,2,2)=4 clocks(0,1,1)=nothing", clock(0, 0, 1, 0));
    edge(25, "periods: 0 to 9", "clocks(1,-1,1)=IAE clocks(1,10,1)=IAE clocks(1,-2147483648,1)=IAE",
        "clocks(1,2147483647,1)=IAE clocks(1,9,1)=nothing", clock(0, 1, 9, 0),
        "game(0,2,2)=4 clocks(1,0,1)=nothing", clock(1, 1, 0, 0));
    edge(25, "each: 1 to 60", "clocks(1,1,0)=IAE clocks(1,1,61)=IAE clocks(1,1,-1)=IAE",
        "clocks(1,1,-2147483648)=IAE clocks(1,1,2147483647)=IAE clocks(0,2,60)=nothing",
        "think(59)=-1",
        clock(0, 0, 2, 59), "think(1)=-1", clock(0, 0, 1, 0), "game(0,2,2)=4 clocks(0,2,1)=nothing",
        "think(1)=-1", clock(0, 0, 1, 0));
    edge(25, "each: 1 to 60, without periods too", "clocks(1,0,0)=IAE clocks(1,0,61)=IAE",
        "clocks(1,0,60)=nothing");
    edge(25, "seconds and periods are 0", "clocks(0,0,1)=IAE clocks(0,0,60)=IAE clock(0,0)=0",
        "think(1)=ISE clocks(1,0,1)=nothing game(0,2,2)=4 clocks(0,1,1)=nothing");
    edge(25, "seconds and periods that are 0 together alone are no such", "clocks(-1,1,1)=IAE",
        "clocks(1,-1,1)=IAE clocks(-9,9,1)=IAE clocks(9,-9,1)=IAE think(1)=ISE");
    edge(25, "the largest ones", "clocks(3600,9,60)=nothing", clock(0, 3600, 9, 0),
        clock(1, 3600, 9, 0));
  }

  private static void clocksRefused() {
    edge(25, "the game has clocks", "clocks(5,1,5)=nothing clocks(5,1,5)=ISE clocks(9,9,9)=ISE",
        clock(0, 5, 1, 0), "think(3)=-1 clocks(5,1,5)=ISE clock(0,0)=2");
    edge(25, "a move was made that was not taken back", "move(0)=-1 clocks(5,1,5)=ISE clock(0,0)=0",
        "move(1)=-1 clocks(5,1,5)=ISE undo()=1 clocks(5,1,5)=ISE undo()=0 clocks(5,1,5)=nothing",
        clock(1, 5, 1, 0));
    edge(25, "a move was made that was not taken back: a swap",
        "move(1)=-1 swap()=2 clocks(5,1,5)=ISE undo()=1 clocks(5,1,5)=ISE undo()=0",
        "clocks(5,1,5)=nothing clocks(5,1,5)=ISE");
    edge(25, "the game has clocks, whose moves were taken back",
        "clocks(5,1,5)=nothing move(0)=-1 undo()=0 clocks(9,1,5)=ISE clock(0,0)=5");
    edge(25, "it is over: joined", WON_BY_0, "clocks(5,1,5)=ISE undo()=2 undo()=1 undo()=0",
        "clocks(5,1,5)=nothing");
    edge(25, "it is over: lost on time", "clocks(0,1,5)=nothing think(5)=1 clocks(5,1,5)=ISE",
        "game(0,2,2)=4 clocks(5,1,5)=nothing");
    edge(25, "an argument out of range is told ahead of clocks, moves, a game that is over",
        "clocks(5,1,5)=nothing clocks(0,0,1)=IAE clocks(3601,1,1)=IAE clocks(1,10,1)=IAE",
        "clocks(1,1,61)=IAE game(0,2,2)=4 move(0)=-1 clocks(0,0,1)=IAE clocks(-1,1,1)=IAE",
        WON_BY_0,
        "clocks(1,1,0)=IAE clocks(0,0,5)=IAE clocks(5,1,5)=ISE");
  }

  private static void clocksOfBoth() {
    edge(25, "of both players", "clocks(10,2,5)=nothing", clock(0, 10, 2, 0), clock(1, 10, 2, 0),
        "think(12)=-1", clock(0, 0, 2, 2), clock(1, 10, 2, 0), "move(0)=-1 think(3)=-1",
        clock(0, 0, 2, 0), clock(1, 7, 2, 0));
    edge(25, "each game's clocks are its own: nothing used stays",
        "clocks(1,3,9)=nothing think(6)=-1 game(0,3,3)=9", clock(0, 0, 0, 0),
        "clocks(2,1,7)=nothing",
        clock(0, 2, 1, 0), "think(8)=-1", clock(0, 0, 1, 6), "think(1)=1");
  }

  // ---- promise 26

  private static void thinkArguments() {
    edge(26, "seconds: 1 to 600", "clocks(3600,9,60)=nothing think(0)=IAE think(601)=IAE",
        "think(-1)=IAE think(-2147483648)=IAE think(2147483647)=IAE clock(0,0)=3600 think(1)=-1",
        "clock(0,0)=3599 think(600)=-1 clock(0,0)=2999");
    edge(26, "seconds out of range are told ahead of no clocks, and of a game that is over",
        "think(0)=IAE think(601)=IAE think(1)=ISE clocks(1,0,1)=nothing think(2)=1 think(0)=IAE",
        "think(601)=IAE think(1)=ISE", WON_BY_0, "think(0)=IAE think(600)=ISE");
  }

  private static void thinkRefused() {
    edge(26, "the game has no clocks", "think(1)=ISE think(600)=ISE move(0)=-1 think(1)=ISE",
        "game(0,2,2)=4 clocks(9,1,1)=nothing think(1)=-1 game(0,2,2)=4 think(1)=ISE");
    edge(26, "the game is over: joined", "clocks(9,1,5)=nothing move(0)=-1 move(3)=-1 move(1)=0",
        "think(1)=ISE",
        clock(0, 9, 1, 0), clock(1, 9, 1, 0), "undo()=2 think(1)=-1 clock(0,0)=8");
    edge(26, "the game is over: lost on time", "clocks(1,0,1)=nothing think(2)=1 think(1)=ISE",
        clock(0, 0, 0, 1), "game(0,2,2)=4 clocks(1,0,1)=nothing move(0)=-1 think(2)=0 think(1)=ISE",
        clock(1, 0, 0, 1));
  }

  private static void seconds() {
    edge(26, "the seconds are taken from the player's seconds: to the last one",
        "clocks(10,1,5)=nothing",
        "think(9)=-1", clock(0, 1, 1, 0), "think(1)=-1", clock(0, 0, 1, 0), "think(1)=-1",
        clock(0, 0, 1, 1), "think(3)=-1", clock(0, 0, 1, 4), "think(1)=1", clock(0, 0, 0, 0));
    edge(26, "what it thinks more is taken from a period", "clocks(10,1,5)=nothing think(11)=-1",
        clock(0, 0, 1, 1), "game(0,2,2)=4 clocks(10,1,5)=nothing think(14)=-1", clock(0, 0, 1, 4),
        "game(0,2,2)=4 clocks(10,1,5)=nothing think(15)=1", clock(0, 0, 0, 0));
    edge(26, "all of 3600 seconds and 9 periods of 60", "clocks(3600,9,60)=nothing think(600)=-1",
        "think(600)=-1 think(600)=-1 think(600)=-1 think(600)=-1 think(600)=-1", clock(0, 0, 9, 0),
        "think(539)=-1", clock(0, 0, 1, 59), "think(1)=1", clock(0, 0, 0, 0), "told(4)=1");
    edge(26, "it is the player to move who thinks", "clocks(10,1,5)=nothing think(1)=-1",
        clock(0, 9, 1, 0),
        "move(0)=-1 think(2)=-1", clock(1, 8, 1, 0), "move(3)=-1 think(3)=-1", clock(0, 6, 1, 0),
        clock(1, 8, 1, 0), "undo()=1 think(4)=-1", clock(1, 4, 1, 0), clock(0, 6, 1, 0));
    edge(26, "behind a swap the player 0 thinks", "clocks(10,1,5)=nothing move(1)=-1 swap()=2",
        "think(3)=-1",
        clock(0, 7, 1, 0), clock(1, 10, 1, 0));
  }

  private static void periods() {
    edge(26, "for each whole period that is used up it has one fewer: a second less, and the whole",
        "clocks(0,3,5)=nothing think(4)=-1", clock(0, 0, 3, 4), "think(1)=-1", clock(0, 0, 2, 0),
        "think(5)=-1", clock(0, 0, 1, 0), "think(4)=-1", clock(0, 0, 1, 4), "think(1)=1",
        clock(0, 0, 0, 0));
    edge(26, "several periods at once", "clocks(0,3,5)=nothing think(10)=-1", clock(0, 0, 1, 0),
        "game(0,2,2)=4 clocks(0,3,5)=nothing think(14)=-1", clock(0, 0, 1, 4),
        "game(0,2,2)=4 clocks(0,3,5)=nothing think(15)=1", clock(0, 0, 0, 0),
        "game(0,2,2)=4 clocks(0,3,5)=nothing think(16)=1", clock(0, 0, 0, 1));
    edge(26, "periods of one second", "clocks(0,9,1)=nothing think(8)=-1", clock(0, 0, 1, 0),
        "think(1)=1",
        clock(0, 0, 0, 0), "game(0,2,2)=4 clocks(0,9,1)=nothing think(9)=1", clock(0, 0, 0, 0),
        "game(0,2,2)=4 clocks(0,1,1)=nothing think(1)=1");
    edge(26, "used up since its last move, by several thoughts together", "clocks(0,2,10)=nothing",
        "think(3)=-1",
        "think(3)=-1 think(3)=-1", clock(0, 0, 2, 9), "think(2)=-1", clock(0, 0, 1, 1),
        "think(8)=-1",
        clock(0, 0, 1, 9), "think(1)=1");
    edge(26, "if it has none left, it has lost: the last one is used up", "clocks(0,1,60)=nothing",
        "think(59)=-1",
        "told(4)=-1 think(1)=1 told(4)=1", clock(0, 0, 0, 0), clock(1, 0, 1, 0));
  }

  private static void withoutPeriods() {
    edge(26, "without any at first, with the first second more", "clocks(5,0,60)=nothing",
        "think(5)=-1",
        clock(0, 0, 0, 0), "told(4)=-1 think(1)=1", clock(0, 0, 0, 1), "told(4)=1");
    edge(26, "without any at first: more at once", "clocks(5,0,60)=nothing think(6)=1",
        clock(0, 0, 0, 1),
        "game(0,2,2)=4 clocks(600,0,1)=nothing think(600)=-1", clock(0, 0, 0, 0),
        "move(0)=-1 think(600)=-1",
        "move(3)=-1 think(1)=1", clock(0, 0, 0, 1));
    edge(26, "without any at first: the seconds are used up, and a move can be made still",
        "clocks(1,0,1)=nothing think(1)=-1 move(0)=-1 think(1)=-1 move(3)=-1 move(1)=0 told(4)=0");
  }

  private static void givenBack() {
    edge(26, "with its move what it used of a period that is not used up is given back",
        "clocks(0,2,5)=nothing think(4)=-1", clock(0, 0, 2, 4), "move(0)=-1", clock(0, 0, 2, 0),
        "think(9)=-1", clock(1, 0, 1, 4), "move(3)=-1", clock(1, 0, 1, 0),
        "think(4)=-1 think(1)=-1",
        clock(0, 0, 1, 0));
    edge(26, "with its swap too", "clocks(0,2,5)=nothing move(0)=-1 think(3)=-1", clock(1, 0, 2, 3),
        "swap()=0", clock(1, 0, 2, 0), clock(0, 0, 2, 0));
    edge(26, "with its move alone: the other one's move gives nothing back",
        "clocks(0,3,5)=nothing",
        "move(0)=-1 think(4)=-1 undo()=0", clock(1, 0, 3, 4), "move(1)=-1", clock(1, 0, 3, 4),
        "think(1)=-1", clock(1, 0, 2, 0));
    edge(26, "a period that is used up is not given back, nor are seconds",
        "clocks(3,3,5)=nothing think(9)=-1",
        clock(0, 0, 2, 1), "move(0)=-1", clock(0, 0, 2, 0));
    edge(26, "a move that is refused gives nothing back", "clocks(0,2,5)=nothing think(4)=-1",
        "move(4)=IOOBE",
        "swap()=ISE", clock(0, 0, 2, 4), "move(0)=-1 think(4)=-1 move(0)=IAE", clock(1, 0, 2, 4));
    edge(26, "with a move that wins", "clocks(0,2,5)=nothing move(0)=-1 move(3)=-1 think(3)=-1",
        "move(1)=0",
        clock(0, 0, 2, 0));
  }

  private static void takenBack() {
    edge(26, "time is not given back when moves are taken back", "clocks(10,2,5)=nothing",
        "think(4)=-1",
        "move(0)=-1 think(6)=-1 undo()=0", clock(0, 6, 2, 0), clock(1, 4, 2, 0), "think(6)=-1",
        clock(0, 0, 2, 0));
    edge(26, "nor what is used of a period", "clocks(0,2,5)=nothing move(0)=-1 think(4)=-1",
        "undo()=0",
        clock(1, 0, 2, 4), "move(0)=-1", clock(1, 0, 2, 4), "think(1)=-1", clock(1, 0, 1, 0));
    edge(26, "nor what is used of a period, when several moves are taken back",
        "clocks(0,2,5)=nothing",
        "move(0)=-1 move(3)=-1 think(3)=-1 undo()=1", clock(0, 0, 2, 3), "think(4)=-1 undo()=0",
        clock(0, 0, 2, 3), clock(1, 0, 2, 4), "think(2)=-1", clock(0, 0, 1, 0));
    edge(26, "what was given back with a move stays so", "clocks(0,2,5)=nothing think(4)=-1",
        "move(0)=-1",
        "undo()=0", clock(0, 0, 2, 0), "think(4)=-1", clock(0, 0, 2, 4));
    edge(26, "nor periods", "clocks(0,3,5)=nothing think(5)=-1 move(0)=-1 undo()=0",
        clock(0, 0, 2, 0),
        "move(0)=-1 swap()=0 undo()=1 undo()=0", clock(0, 0, 2, 0), clock(1, 0, 3, 0));
  }

  private static void lostOnTime() {
    edge(26, "returns who has won by that: the other one", "clocks(1,0,1)=nothing think(2)=1",
        "told(4)=1 game(0,2,2)=4 clocks(1,0,1)=nothing move(0)=-1 think(2)=0 told(4)=0 told(3)=-1");
    edge(26, "a game that was lost on time stays lost", "clocks(1,0,1)=nothing move(0)=-1",
        "think(2)=0 undo()=ISE move(1)=ISE swap()=ISE think(1)=ISE clocks(1,1,1)=ISE told(4)=0",
        "told(0)=1");
  }

  // ---- promise 27

  private static void clockArguments() {
    edge(27, "no such player: -1, 2", "clock(0,0)=0 clock(1,0)=0 clock(-1,0)=IOOBE",
        "clock(2,0)=IOOBE clock(-2147483648,0)=IOOBE clock(2147483647,0)=IOOBE",
        "clocks(5,1,5)=nothing clock(-1,0)=IOOBE clock(2,0)=IOOBE clock(1,0)=5");
    edge(27, "what: 0 to 2", "clock(0,0)=0 clock(0,2)=0 clock(0,-1)=IAE clock(0,3)=IAE",
        "clock(1,-2147483648)=IAE clock(1,2147483647)=IAE clocks(5,1,5)=nothing clock(1,-1)=IAE",
        "clock(1,3)=IAE clock(1,2)=0");
    edge(27, "no such player is told first, ahead of what", "clock(2,3)=IOOBE clock(-1,-1)=IOOBE",
        "clock(-1,3)=IOOBE clock(2,-1)=IOOBE");
  }

  private static void clockTold() {
    edge(27, "0 without clocks", clock(0, 0, 0, 0), clock(1, 0, 0, 0),
        "clocks(5,1,5)=nothing think(7)=-1",
        "game(0,2,2)=4", clock(0, 0, 0, 0), clock(1, 0, 0, 0), "move(0)=-1", clock(0, 0, 0, 0));
    edge(27, "what was thought beyond all its periods, of who has lost",
        "clocks(3,2,4)=nothing think(600)=1",
        clock(0, 0, 0, 589), clock(1, 3, 2, 0), "game(0,2,2)=4 clocks(0,1,1)=nothing think(600)=1",
        clock(0, 0, 0, 599), "game(0,2,2)=4 clocks(1,0,60)=nothing think(600)=1",
        clock(0, 0, 0, 599));
    edge(27, "beyond all its periods: what was used of one before counts",
        "clocks(0,2,4)=nothing think(7)=-1",
        clock(0, 0, 1, 3), "think(10)=1", clock(0, 0, 0, 9),
        "game(0,2,2)=4 clocks(0,1,60)=nothing think(59)=-1",
        "think(600)=1", clock(0, 0, 0, 599));
    edge(27, "nothing beyond, if the last period is just used up",
        "clocks(2,3,4)=nothing think(14)=1",
        clock(0, 0, 0, 0), "game(0,2,2)=4 clocks(2,3,4)=nothing think(15)=1", clock(0, 0, 0, 1));
    edge(27, "of who has not lost: what is used of a period by now",
        "clocks(0,2,5)=nothing move(0)=-1",
        "think(3)=-1 undo()=0 think(11)=1", clock(0, 0, 0, 1), clock(1, 0, 2, 3));
    edge(27, "it is asked, and changes nothing", "clocks(0,2,5)=nothing think(3)=-1",
        clock(0, 0, 2, 3),
        clock(0, 0, 2, 3), "think(2)=-1", clock(0, 0, 1, 0));
  }

  // ---- promise 28

  private static void person() {
    edge(28, "numbered from 0, at most 10", "ofPerson(0,0)=IOOBE", TEN,
        "ofPerson(9,0)=1000 person()=ISE ofPerson(10,0)=IOOBE person()=ISE record(9,10)=IOOBE",
        "game(0,2,2)=4 person()=ISE");
    edge(28, "with ratings, 1000 at first, behind all others", TEN,
        "ofPerson(0,0)=1000 ofPerson(0,1)=0 ofPerson(5,0)=1000 ofPerson(5,1)=5 ofPerson(9,0)=1000",
        "ofPerson(9,1)=9 ofPerson(9,2)=0 ofPerson(9,3)=0");
    edge(28, "a new one is behind all others, whatever they have won or lost",
        "person()=0 person()=1",
        WON_BY_0, "record(1,0)=1016 person()=2 ofPerson(2,0)=1000 ofPerson(2,1)=2 ofPerson(1,1)=0",
        "ofPerson(0,1)=1 person()=3 ofPerson(3,1)=3");
    edge(28, "they stay when a game begins", "person()=0 game(2,6,6)=36 person()=1",
        "ofPerson(0,1)=0");
  }

  // ---- promise 29

  private static void recordArguments() {
    edge(29, "no such person, of either: -1, one behind the last", "record(0,1)=IOOBE person()=0",
        WON_BY_0,
        "record(0,1)=IOOBE record(1,0)=IOOBE person()=1 record(-1,0)=IOOBE record(0,-1)=IOOBE",
        "record(2,0)=IOOBE record(0,2)=IOOBE record(-2147483648,0)=IOOBE",
        "record(0,2147483647)=IOOBE ofPerson(0,2)=0 record(0,1)=1016");
    edge(29, "no such person, of either: of ten", TEN, WON_BY_0,
        "record(10,0)=IOOBE record(0,10)=IOOBE record(9,10)=IOOBE record(9,0)=1016",
        "ofPerson(9,1)=0");
    edge(29, "both are the same", "person()=0 person()=1", WON_BY_0,
        "record(0,0)=IAE record(1,1)=IAE ofPerson(0,0)=1000 ofPerson(0,2)=0 ofPerson(0,3)=0",
        "record(1,0)=1016");
    edge(29, "no such person is told ahead of both the same", "person()=0", WON_BY_0,
        "record(1,1)=IOOBE record(-1,-1)=IOOBE record(0,0)=IAE");
    edge(29, "no such person is told ahead of a game that is not over",
        "person()=0 record(0,1)=IOOBE record(1,0)=IOOBE record(1,1)=IOOBE person()=1",
        "record(0,2)=IOOBE record(0,1)=ISE");
    edge(29, "both the same is told ahead of a game that is not over, or was recorded",
        "person()=0 person()=1 record(0,0)=IAE record(0,1)=ISE", WON_BY_0,
        "record(0,1)=1016 record(1,1)=IAE record(0,1)=ISE record(0,2)=IOOBE");
  }

  private static void recordRefused() {
    edge(29, "the game is not over", "person()=0 person()=1 record(0,1)=ISE move(0)=-1",
        "record(0,1)=ISE move(3)=-1 record(1,0)=ISE move(1)=0 undo()=2 record(0,1)=ISE",
        "ofPerson(0,0)=1000 ofPerson(0,2)=0 ofPerson(1,3)=0 move(1)=0 record(0,1)=1016");
    edge(29, "was recorded: once", "person()=0 person()=1 person()=2", WON_BY_0, "record(0,1)=1016",
        "record(0,1)=ISE record(1,0)=ISE record(2,0)=ISE ofPerson(0,0)=1016 ofPerson(0,2)=1",
        "ofPerson(1,3)=1 ofPerson(2,3)=0");
    edge(29, "each new game can be recorded once", "person()=0 person()=1", WON_BY_0,
        "record(0,1)=1016",
        "game(0,2,2)=4 record(0,1)=ISE", WON_BY_0, "record(0,1)=1031 record(0,1)=ISE", WON_BY_1,
        "record(0,1)=988 record(0,1)=ISE");
    edge(29, "a game that was lost on time is over", "person()=0 person()=1 clocks(1,0,1)=nothing",
        "record(0,1)=ISE think(2)=1 record(0,1)=1016 ofPerson(1,0)=1016 ofPerson(0,0)=984",
        "game(0,2,2)=4 clocks(1,0,1)=nothing move(0)=-1 think(2)=0 record(0,1)=1002");
  }

  /**
   * Games that are recorded, each told by who won and who lost, with the ratings that are due: the
   * 25th part of a lead is rounded down, of one below 0 away from 0.
   */
  private static String season(String results) {
    int[] ratings = new int[10];
    java.util.Arrays.fill(ratings, 1000);
    StringBuilder calls = new StringBuilder(TEN);
    for (String result : results.split(" ")) {
      int won = result.charAt(0) - '0', lost = result.charAt(1) - '0';
      int lead = ratings[won] - ratings[lost];
      int part = lead >= 0 ? lead / 25 : -((24 - lead) / 25);
      int change = Math.min(31, Math.max(1, 16 - part));
      ratings[won] += change;
      ratings[lost] -= change;
      calls.append(played(lost, won, ratings[won]));
    }
    return calls.toString();
  }

  /** A game that the player 0 loses on time, and its record. */
  private static String played(int lost, int won, int rating) {
    return " game(0,2,2)=4 clocks(1,0,1)=nothing think(2)=1 record(" + lost + "," + won + ")="
        + rating + " ";
  }

  private static String rated(int person, int rating) {
    return " ofPerson(" + person + ",0)=" + rating + " ";
  }

  private static void ratings() {
    String part = "the 25th part, rounded down, of how much more the one who won had: ";
    String near = season("61 81 31 51 31 03 08"), nearer = season("81 08 04 07 07 71 07");
    String past = season("04 06 07 51 05 05 05"), one = season("51 05");
    edge(29, part + "0 more", season("01"), rated(0, 1016), rated(1, 984));
    edge(29, part + "1 more", one, rated(2, 1000), rated(5, 999), played(5, 2, 1016),
        rated(5, 983));
    edge(29, part + "24 more", near, rated(0, 1034), rated(3, 1010), played(3, 0, 1050),
        rated(3, 994));
    edge(29, part + "25 more", nearer, rated(8, 999), rated(7, 974), played(7, 8, 1014),
        rated(7, 959));
    edge(29, part + "26 more", past, rated(2, 1000), rated(5, 974), played(5, 2, 1015),
        rated(5, 959));
    edge(29, part + "1 fewer", one, rated(5, 999), rated(2, 1000), played(2, 5, 1016),
        rated(2, 983));
    edge(29, part + "24 fewer", near, rated(3, 1010), rated(0, 1034), played(0, 3, 1027),
        rated(0, 1017));
    edge(29, part + "25 fewer", nearer, rated(7, 974), rated(8, 999), played(8, 7, 991),
        rated(8, 982));
    edge(29, part + "26 fewer", past, rated(5, 974), rated(2, 1000), played(2, 5, 992),
        rated(2, 982));
  }

  private static void atLeastOneAtMostThirtyOne() {
    String at374 = season("07 09 91 71 01 09 03 04 06 08 01 91 31 61 41 81 81 08 81 08 81 08"
        + " 06 09 61 06 91 09");
    String at375 = season("08 81 01 91 21 09 02 91 61 51 05 09 01 51 06 05 08 81 08 07 02 71"
        + " 07 04 21 02 03 81");
    String at376 = season("71 41 91 81 04 07 01 41 08 09 51 04 01 05 09 03 91 31 41 71 07 04"
        + " 09 07 71 91 08 81");
    String at399 = season("09 01 01 91 21 02 08 04 02 03 09 81 08 21 02 41 71 91 07 31 21 81"
        + " 91 09 91 09 07 71 07 08");
    String at400 = season("01 03 08 31 81 91 31 51 61 09 03 06 61 05 06 61 06 08 81 61 31 21"
        + " 91 51 02 09 05 51 21 03 06");
    String at401 = season("01 04 41 07 71 07 03 02 01 09 31 71 03 07 21 71 91 31 03 31 07 03"
        + " 06 09 08 71 07 02 61 05 31");
    edge(29, "2 of 374 more", at374, rated(0, 1195), rated(1, 821), played(1, 0, 1197),
        rated(1, 819));
    edge(29, "1 of 375 more", at375, rated(0, 1206), rated(1, 831), played(1, 0, 1207),
        rated(1, 830));
    edge(29, "1 of 376 more", at376, rated(0, 1187), rated(1, 811), played(1, 0, 1188),
        rated(1, 810));
    edge(29, "1 of 399 more", at399, rated(0, 1207), rated(1, 808), played(1, 0, 1208),
        rated(1, 807));
    edge(29, "at least 1: of 400 more", at400, rated(0, 1192), rated(1, 792), played(1, 0, 1193),
        rated(1, 791));
    edge(29, "at least 1: of 401 more", at401, rated(0, 1221), rated(1, 820), played(1, 0, 1222),
        rated(1, 819));
    edge(29, "31 of 374 fewer", at374, played(0, 1, 852), rated(0, 1164));
    edge(29, "31 of 375 fewer", at375, played(0, 1, 862), rated(0, 1175));
    edge(29, "at most 31: of 376 fewer", at376, played(0, 1, 842), rated(0, 1156));
    edge(29, "at most 31: of 400 fewer", at400, played(0, 1, 823), rated(0, 1161));
    edge(29, "at most 31: of 401 fewer", at401, played(0, 1, 851), rated(0, 1190));
    edge(29, "30 of 350 fewer",
        season("02 01 01 21 51 31 05 03 07 71 04 41 07 71 31 03 07 71 07 71 31 03"
        + " 07 05 02"), rated(1, 839), rated(0, 1189), played(0, 1, 869), rated(0, 1159));
    edge(29, "31 of 351 fewer",
        season("01 04 01 41 51 91 31 61 41 71 21 01 05 81 09 06 03 61 07 04 08 31"
        + " 41 71 51"), rated(1, 796), rated(0, 1147), played(0, 1, 827), rated(0, 1116));
  }

  /** The places of all persons, that of the person 0 first. */
  private static String places(String digits) {
    StringBuilder calls = new StringBuilder(" ");
    for (int i = 0; i < digits.length(); i++) {
      calls.append("ofPerson(").append(i).append(",1)=").append(digits.charAt(i)).append(' ');
    }
    return calls.toString();
  }

  private static void ladder() {
    edge(29, "who won ahead of the other one stays where it is", TEN, played(1, 0, 1016),
        places("0123456789"),
        played(9, 0, 1032), places("0123456789"), played(9, 8, 1016), places("0123456789"));
    edge(29, "the last one takes the first place, all others are one place farther behind", TEN,
        played(0, 9, 1016), places("1234567890"), played(9, 8, 1017), places("2345678901"));
    edge(29, "the next one behind takes the place: the two change", TEN, played(0, 1, 1016),
        places("1023456789"), played(8, 9, 1016), places("1023456798"));
    edge(29, "those from that place on, up to where it was, and no one else", TEN,
        played(3, 6, 1016),
        places("0124563789"), played(3, 5, 1016), places("0125643789"));
    edge(29, "by the places on the ladder, not by the numbers or ratings", TEN, played(0, 9, 1016),
        played(9, 0, 1002), places("0234567891"), played(9, 0, 1018), places("0234567891"),
        played(8, 1, 1016),
        places("0234567891"), played(1, 8, 1002), places("0345678921"));
    edge(29, "of the two persons each as the player that it was",
        "person()=0 person()=1 person()=2", WON_BY_0,
        "record(2,0)=1016 ofPerson(2,1)=0 ofPerson(0,1)=1 ofPerson(1,1)=2 ofPerson(2,2)=1",
        "ofPerson(0,3)=1",
        WON_BY_1, "record(2,1)=1017 ofPerson(1,1)=0 ofPerson(2,1)=1 ofPerson(1,0)=1017",
        "ofPerson(2,0)=999 ofPerson(2,3)=1 ofPerson(1,2)=1");
  }

  // ---- promise 30

  private static void ofPerson() {
    edge(30, "no such person: -1, one behind the last", "ofPerson(0,0)=IOOBE ofPerson(-1,0)=IOOBE",
        "person()=0 ofPerson(0,0)=1000 ofPerson(1,0)=IOOBE ofPerson(-1,0)=IOOBE",
        "ofPerson(-2147483648,0)=IOOBE ofPerson(2147483647,0)=IOOBE person()=1 ofPerson(1,1)=1",
        "ofPerson(2,0)=IOOBE");
    edge(30, "no such person: of ten", TEN, "ofPerson(9,0)=1000 ofPerson(10,0)=IOOBE",
        "ofPerson(9,3)=0");
    edge(30, "what: 0 to 3", "person()=0 ofPerson(0,0)=1000 ofPerson(0,3)=0 ofPerson(0,-1)=IAE",
        "ofPerson(0,4)=IAE ofPerson(0,-2147483648)=IAE ofPerson(0,2147483647)=IAE");
    edge(30, "no such person is told first, ahead of what", "ofPerson(0,4)=IOOBE person()=0",
        "ofPerson(1,-1)=IOOBE ofPerson(-1,4)=IOOBE ofPerson(1,4)=IOOBE ofPerson(0,4)=IAE");
    edge(30, "how many were won and lost: none at first, then each alone", "person()=0 person()=1",
        "ofPerson(0,2)=0 ofPerson(0,3)=0", WON_BY_0, "record(0,1)=1016 ofPerson(0,2)=1",
        "ofPerson(0,3)=0",
        "ofPerson(1,2)=0 ofPerson(1,3)=1", WON_BY_1, "record(0,1)=1002 ofPerson(0,2)=1",
        "ofPerson(0,3)=1 ofPerson(1,2)=1 ofPerson(1,3)=1 ofPerson(1,0)=1002 ofPerson(0,0)=998");
    edge(30, "a game that is not recorded does not count", "person()=0 person()=1", WON_BY_0,
        "ofPerson(0,2)=0 ofPerson(1,3)=0 ofPerson(0,0)=1000 game(0,2,2)=4 ofPerson(0,2)=0");
    edge(30, "many games: a hundred", season(repeated("01", 100)),
        "ofPerson(0,2)=100 ofPerson(1,3)=100 ofPerson(0,3)=0 ofPerson(1,2)=0 ofPerson(0,1)=0",
        "ofPerson(1,1)=1 ofPerson(9,0)=1000");
  }

  private static String repeated(String result, int times) {
    StringBuilder all = new StringBuilder(result);
    for (int i = 1; i < times; i++) {
      all.append(' ').append(result);
    }
    return all.toString();
  }
}
