/** Promises 19 to 24: for each sentence that names a boundary case, runs that hold to it. */
final class PatternEdges {
  private static final String SIGNS = ".ox#*!|";
  /** Four alternatives, three of them with !: 30 characters. */
  private static final String LONGEST = "..####!|###..#!|#...##!|......";

  private PatternEdges() {
  }

  static void all() {
    typeArguments();
    typeCharacters();
    typeOnFullTape();
    wipe();
    faultOfOneAlternative();
    faultOfSeveral();
    faultOfFullTape();
    pattern();
    sixPatterns();
    for (int promise = 23; promise <= 24; promise++) {
      String name = promise == 23 ? "fits" : "fitsAnew";
      fitsArguments(promise, name);
      emptyAndFullBoards(promise, name);
      eachCharacter(promise, name);
      turned(promise, name);
      notTurned(promise, name);
      alternatives(promise, name);
      overTheSeam(promise, name);
      patternsStay(promise, name);
    }
  }

  private static void edge(int promise, String sentence, String... parts) {
    Script.edge(promise, sentence, parts);
  }

  private static String type(String text) {
    return "type(" + Script.packed(text) + "," + text.length() + ")=";
  }

  // ---- promise 19

  private static void typeArguments() {
    edge(19, "n: 1 to 8", type(".") + "1 " + type("........") + "9 type(46,0)=IAE type(46,9)=IAE",
        "type(3327647950551526958,9)=IAE type(46,-1)=IAE type(46,-2147483648)=IAE",
        "type(46,2147483647)=IAE type(3327647950551526958,16)=IAE wipe()=9");
    for (int n = 1; n <= 8; n++) {
      String text = "......!|".substring(0, n);
      edge(19, "the first one in the lowest 8 bits, and so on: " + n + " of them", type(text) + n,
          "fault()=" + (n == 6 || n == 7 ? -1 : n), "wipe()=" + n, type("ox") + "2 fault()=2",
        "wipe()=2",
          type("!.") + "2 fault()=0 wipe()=2 " + type(".!") + "2 fault()=1 wipe()=2");
      long above = n == 8 ? 0 : (0xffL << 8 * n | 1L << 63);
      edge(19, "what stands above " + n + " characters does not count",
          "type(" + (Script.packed(text) | above) + "," + n + ")=" + n, "wipe()=" + n);
      edge(19, "one of the n characters cannot be on the tape: the last one of " + n,
          "type(" + Script.packed("........".substring(1, n)) + "," + n + ")=IAE",
          type("........".substring(1, n) + "a") + "IAE fault()=0 wipe()=0");
      edge(19, "one of the n characters cannot be on the tape: the first one of " + n,
          type("a........".substring(0, n)) + "IAE fault()=0 wipe()=0");
    }
  }

  private static void typeCharacters() {
    StringBuilder calls = new StringBuilder();
    int typed = 0;
    for (int sign = 0; sign < 256; sign++) {
      boolean is = SIGNS.indexOf((char) sign) >= 0;
      calls.append("type(").append(sign).append(",1)=").append(is ? ++typed : "IAE").append(' ');
    }
    edge(19, "the characters: . o x # * ! | and no other one", calls.toString(), "wipe()=7");
    edge(19, "a character above 127 is the highest of eight: the number is below 0",
        "type(-5895724086303248850,8)=IAE type(-1,8)=IAE type(-1,1)=IAE type(-210,1)=1 wipe()=1");
    edge(19, "a refused character in the middle types none of them",
        type("...a...") + "IAE wipe()=0",
        type("ox#") + "3 " + type("..\u00e9..") + "IAE fault()=3 wipe()=3");
    edge(19, "any order of them can be typed, though it is no pattern",
        type("||!!||!!") + "8 fault()=0",
        "wipe()=8 " + type("!|#*.xo|") + "8 fault()=0 pattern()=IAE wipe()=8");
  }

  private static void typeOnFullTape() {
    String eight = type("........");
    edge(19, "the tape has at most 30: exactly 30 are typed",
        eight + "8 " + eight + "16 " + eight + "24",
        type("......") + "30 wipe()=30 " + eight + "8 " + eight + "16",
        type("......") + "22 " + eight + "30",
        "wipe()=30");
    edge(19, "the tape would have more than 30: 31", eight + "8 " + eight + "16 " + eight + "24",
        type(".......") + "ISE " + eight + "ISE " + type("....") + "28 " + type("...") + "ISE",
        type("..") + "30 " + type(".") + "ISE " + eight + "ISE wipe()=30");
    edge(19, "the tape would have more than 30: none of them is typed", eight + "8 " + eight + "16",
        type("......!") + "23 " + eight + "ISE " + type(".......") + "30 fault()=6 wipe()=30");
    edge(19, "n or a character out of range is told ahead of a full tape",
        eight + "8 " + eight + "16",
        eight + "24 " + type("......") + "30 type(46,0)=IAE type(46,9)=IAE type(46,-1)=IAE",
        type("a") + "IAE " + type(".......a") + "IAE type(46,2)=IAE",
        type(".") + "ISE wipe()=30");
    edge(19, "an empty tape takes characters again",
        eight + "8 wipe()=8 wipe()=0 " + type(".") + "1",
        "tape(......)= pattern()=0 " + type("ox") + "2 wipe()=2");
  }

  // ---- promise 20

  private static void wipe() {
    edge(20, "an empty tape had none", "wipe()=0 wipe()=0 fault()=0 pattern()=IAE");
    edge(20, "a tape of one, a full tape", type(".") + "1 wipe()=1 wipe()=0 tape(" + LONGEST + ")=",
        "fault()=-1 wipe()=30 fault()=0 wipe()=0 pattern()=IAE");
    edge(20, "what is typed then stands alone", type("||||") + "4 wipe()=4",
        "tape(......)= fault()=-1 pattern()=0 fits(0,0)=0 game(0,3,3)=9 fits(0,0)=16");
    edge(20, "behind a pattern the tape is empty", "tape(......)= pattern()=0 wipe()=0");
    edge(20, "a begun game leaves it", "tape(......)= game(2,3,3)=9 wipe()=6");
  }

  // ---- promise 21

  private static void faultOfOneAlternative() {
    edge(21, "its length, if it is only too short: empty, up to five characters", "fault()=0",
        "tape(.)= fault()=1 tape(o*)= fault()=2 tape(x#.)= fault()=3 tape(#oxo)= fault()=4",
        "tape(*****)= fault()=5");
    edge(21, "none, if it is a pattern: six characters, and with ! behind them",
        "tape(.ox#*.)= fault()=-1 tape(######)= fault()=-1 tape(.ox#*.!)= fault()=-1",
        "tape(oooooo!)= fault()=-1");
    edge(21, "the first character: ! or |", "tape(!)= fault()=0 tape(|)= fault()=0",
        "tape(!......)= fault()=0 tape(|......)= fault()=0");
    StringBuilder calls = new StringBuilder();
    for (int place = 1; place < 6; place++) {
      for (String sign : new String[] {"!", "|"}) {
        String begun = "tape(" + "......".substring(0, place) + sign;
        calls.append(begun + ")= fault()=" + place + " ");
        calls.append(begun + ".ox|!)= fault()=" + place + " ");
      }
    }
    edge(21, "! or | ahead of six characters", calls.toString());
    edge(21, "a seventh character that is neither ! nor |", "tape(.......)= fault()=6",
        "tape(......o)= fault()=6 tape(......x)= fault()=6 tape(......#)= fault()=6",
        "tape(......*)= fault()=6 tape(......*!)= fault()=6");
    edge(21, "behind ! anything but |", "tape(......!.)= fault()=7 tape(......!!)= fault()=7",
        "tape(......!o)= fault()=7 tape(......!*|)= fault()=7 tape(......!|)= fault()=8");
  }

  private static void faultOfSeveral() {
    edge(21, "only too short: | with nothing behind it, or too little", "tape(......|)= fault()=7",
        "tape(......|.)= fault()=8 tape(......|.....)= fault()=12 tape(......!|.....)= fault()=13");
    edge(21, "none: several alternatives, each with or without !",
        "tape(......|......)= fault()=-1 tape(......!|......)= fault()=-1 tape(......|......!)=",
        "fault()=-1 tape(......!|......!)= fault()=-1 tape(......|......|......)= fault()=-1");
    edge(21, "| or ! behind |", "tape(......||)= fault()=7 tape(......|!)= fault()=7",
        "tape(......||......)= fault()=7 tape(......!||......)= fault()=8");
    edge(21, "! ahead of six characters of a later alternative", "tape(......|.....!)= fault()=12",
        "tape(......|.....|......)= fault()=12 tape(......!|...!)= fault()=11");
    edge(21, "a seventh character of a later alternative", "tape(......|.......)= fault()=13",
        "tape(......!|......!.)= fault()=15 tape(......|......|.......)= fault()=20");
    edge(21, "of several the first one", "tape(...!..|!.......|||)= fault()=3",
        "tape(......|!|!)= fault()=7");
  }

  private static void faultOfFullTape() {
    edge(21, "none: a full tape of 30", "tape(" + LONGEST + ")= fault()=-1",
        "tape(......|......!|......!|......!)= fault()=-1");
    edge(21, "four alternatives and no more", "tape(......|......|......|......)= fault()=-1",
        "tape(......|......|......|......!)= fault()=-1 tape(......!|......!|......|......)=",
        "fault()=-1");
    edge(21, "only too short: a full tape of 30",
        "tape(......|......|......|......|..)= fault()=30 tape(......|......|......|......!|.)=",
        "fault()=30 tape(......|......|......|......|)= fault()=28");
    edge(21, "the last character of a full tape",
        "tape(......|......|......|......|.!)= fault()=29 tape(......!|......!|......!|.....!)=",
        "fault()=29 tape(......!|......!|......|.......)= fault()=29",
        "tape(......!|......|......|......!!)= fault()=29");
    edge(21, "it is asked, and changes nothing", "tape(......)= fault()=-1 fault()=-1 wipe()=6",
        "fault()=0 fault()=0 wipe()=0");
  }

  // ---- promise 22

  private static void pattern() {
    edge(22, "the tape is no pattern: empty", "pattern()=IAE wipe()=0 fits(0,0)=IOOBE");
    edge(22, "the tape is no pattern: too short, and stays", "tape(.....)= pattern()=IAE wipe()=5",
        "tape(......|)= pattern()=IAE fault()=7 " + type("......") + "13 pattern()=0 wipe()=0");
    edge(22, "the tape is no pattern: a character too many, and stays",
        "tape(.......)= pattern()=IAE fault()=6 wipe()=7 tape(!)= pattern()=IAE wipe()=1",
        "tape(......!!)= pattern()=IAE wipe()=8 fits(0,0)=IOOBE tape(......)= pattern()=0");
    edge(22, "which is empty then", "tape(......!)= pattern()=0 wipe()=0 fault()=0 pattern()=IAE",
        type(".") + "1");
    edge(22, "the shortest and the longest", "tape(******)= pattern()=0",
        "tape(" + LONGEST + ")= pattern()=1",
        "fits(0,0)=15 fits(1,0)=11 game(0,3,3)=9 fits(0,0)=511 fits(1,0)=277 fitsAnew(1,0)=277");
  }

  private static void sixPatterns() {
    String five = "tape(..####!)= pattern()=0 tape(###..#!)= pattern()=1 tape(#...##!)= pattern()=2"
        + " tape(......)= pattern()=3 tape(******)= pattern()=4 ";
    edge(22, "numbered from 0, at most 6", five, "fits(5,0)=IOOBE tape(oooooo)= pattern()=5",
        "fits(5,0)=0 fits(6,0)=IOOBE tape(******)= pattern()=ISE wipe()=6 fits(5,0)=0",
        "fits(6,0)=IOOBE");
    edge(22, "there are 6: the tape stays", five, "tape(oooooo)= pattern()=5",
        "tape(xxxxxx!)= pattern()=ISE fault()=-1 pattern()=ISE wipe()=7");
    edge(22, "no pattern is told ahead of 6 patterns", five, "tape(oooooo)= pattern()=5",
        "pattern()=IAE tape(.....)= pattern()=IAE tape(.......)= pattern()=IAE tape(......)=",
        "pattern()=ISE");
    edge(22, "6 patterns stay 6 when a game begins", five, "tape(oooooo)= pattern()=5",
        "game(2,3,3)=9 tape(......)= pattern()=ISE fits(4,0)=511 fits(5,0)=0");
    edge(22, "two patterns may be the same", "tape(......)= pattern()=0 tape(......)= pattern()=1",
        "game(0,3,3)=9 fits(0,0)=16 fits(1,0)=16");
  }

  // ---- promises 23 and 24

  private static void fitsArguments(int promise, String name) {
    String two = "tape(******)= pattern()=0 tape(......)= pattern()=1 game(0,3,3)=9 ";
    edge(promise, "no such pattern: -1, one behind the last", name + "(0,0)=IOOBE", two,
        name + "(0,0)=511 " + name + "(1,0)=16 " + name + "(2,0)=IOOBE " + name + "(-1,0)=IOOBE",
        name + "(6,0)=IOOBE " + name + "(2147483647,0)=IOOBE " + name + "(-2147483648,0)=IOOBE");
    edge(promise, "no such player: -1, 2", two, name + "(0,0)=511 " + name + "(0,1)=511",
        name + "(0,-1)=IOOBE " + name + "(0,2)=IOOBE " + name + "(1,2147483647)=IOOBE",
        name + "(1,-2147483648)=IOOBE " + name + "(2,2)=IOOBE");
    edge(promise, "no such pattern: what is on the tape is none yet", "tape(******)=",
        name + "(0,0)=IOOBE pattern()=0 " + name + "(0,0)=15");
  }

  private static void emptyAndFullBoards(int promise, String name) {
    edge(promise, "all cells of an empty board, the largest one", "tape(******)= pattern()=0",
        "game(0,6,6)=36 " + name + "(0,0)=68719476735 " + name + "(0,1)=68719476735",
        "move(35)=-1 " + name + "(0,0)=34359738367 undo()=0",
        "move(0)=-1 " + name + "(0,1)=68719476734",
        "game(2,6,6)=36 " + name + "(0,0)=68719476735 game(1,6,6)=21 " + name + "(0,0)=2097151");
    edge(promise, "no cell of a full board", "tape(******|oooooo|xxxxxx|######)= pattern()=0",
        "game(1,2,2)=3 move(1)=-1 move(2)=-1 " + name + "(0,0)=1 move(0)=0 " + name + "(0,0)=0",
        name + "(0,1)=0 game(0,6,6)=36", GameEdges.moves(GameEdges.FULL_RHOMB, 0, 35),
        name + "(0,0)=16 " + name + "(0,1)=16 move(4)=1 " + name + "(0,0)=0 " + name + "(0,1)=0");
    edge(promise, "at empty cells alone", "tape(*o****|*x****|******)= pattern()=0 game(0,3,3)=9",
        "move(4)=-1 move(0)=-1 " + name + "(0,0)=494 move(8)=-1 " + name + "(0,1)=238");
    edge(promise, "of a game that is over too", "tape(..####|***x**|oo****)= pattern()=0",
        "move(0)=-1 move(3)=-1 " + name + "(0,0)=6 " + name + "(0,1)=6",
        "move(1)=0 " + name + "(0,0)=4",
        name + "(0,1)=4");
  }

  /** The cell 4 of three rows has six neighbours: 5, 7, 6, 3, 1, 2, from the direction 0 on. */
  private static void eachCharacter(int promise, String name) {
    int[] around = {5, 7, 6, 3, 1, 2};
    for (int d = 0; d < 6; d++) {
      String stone = "game(0,3,3)=9 move(" + around[d] + ")=-1 ";
      edge(promise, "o and x, own and the other one's, in the direction " + d,
          "tape(" + at(d, 'o') + "!)= pattern()=0 tape(" + at(d, 'x') + "!)= pattern()=1",
          stone, name + "(0,0)=16 " + name + "(0,1)=0 " + name + "(1,0)=0 " + name + "(1,1)=16",
          "undo()=0 " + name + "(0,0)=0 " + name + "(1,1)=0");
    }
    edge(promise, "# no cell: the sides of a RHOMB", "game(0,3,3)=9 tape(#*****!)= pattern()=0",
        "tape(*#****!)= pattern()=1 tape(**#***!)= pattern()=2 tape(***#**!)= pattern()=3",
        "tape(****#*!)= pattern()=4",
        "tape(*****#!)= pattern()=5 " + name + "(0,0)=292 " + name + "(1,0)=448",
        name + "(2,0)=457 " + name + "(3,0)=73 " + name + "(4,0)=7 " + name + "(5,0)=295");
    edge(promise, "# no cell: a cell with a stone, or an empty one, is one",
        "tape(######)= pattern()=0 tape(#####*)= pattern()=1",
        "tape(####**)= pattern()=2 " + name + "(0,0)=0 " + name + "(1,0)=0",
        name + "(2,0)=9 move(1)=-1 " + name + "(2,0)=9 " + name + "(2,1)=9 game(1,2,2)=3",
        name + "(2,0)=7 " + name + "(1,0)=0");
    edge(promise, ". an empty cell: neither a stone nor no cell", "tape(......)= pattern()=0",
        "game(0,3,3)=9",
        name + "(0,0)=16 move(0)=-1 " + name + "(0,0)=16 move(5)=-1 " + name + "(0,0)=0 undo()=1",
        "move(8)=-1 " + name + "(0,1)=16");
    edge(promise, "* any of these", "tape(******!)= pattern()=0 game(0,3,3)=9 move(1)=-1",
        "move(3)=-1",
        name + "(0,0)=501 " + name + "(0,1)=501");
  }

  /** A sign in one direction, * in the others. */
  private static String at(int direction, char sign) {
    return "*****".substring(0, direction) + sign + "*****".substring(direction);
  }

  private static void turned(int promise, String name) {
    int[] around = {5, 7, 6, 3, 1, 2};
    for (int d = 0; d < 6; d++) {
      edge(promise, "turned by " + d + " directions: the first character for the direction " + d,
          "tape(ox....)= pattern()=0 tape(xo....)= pattern()=1 game(0,3,3)=9",
          "move(" + around[d] + ")=-1 move(" + around[(d + 1) % 6] + ")=-1", name + "(0,0)=16",
          name + "(0,1)=0 " + name + "(1,0)=0 " + name + "(1,1)=16");
      edge(promise, "turned by " + d + " directions: characters apart",
          "tape(o.x...)= pattern()=0 tape(o..x..)= pattern()=1 tape(o...x.)= pattern()=2",
        "game(0,3,3)=9",
          "move(" + around[d] + ")=-1 move(" + around[(d + 2) % 6] + ")=-1", name + "(0,0)=16",
          name + "(0,1)=0 " + name + "(1,0)=0 " + name + "(2,0)=0 " + name + "(2,1)=16");
    }
    edge(promise, "turned by some directions: corners of a RHOMB",
        "game(0,3,3)=9 tape(..####)= pattern()=0 tape(...###)= pattern()=1",
        "tape(....##)= pattern()=2 " + name + "(0,0)=257 " + name + "(1,0)=68",
        name + "(2,0)=170");
    edge(promise, "turned by some directions: corners and sides of a TRIANGLE",
        "game(1,4,4)=10 tape(..####)= pattern()=0 tape(....##)= pattern()=1 tape(......)=",
        "pattern()=2",
        name + "(0,0)=577 " + name + "(1,0)=430 " + name + "(2,0)=16");
  }

  private static void notTurned(int promise, String name) {
    int[] around = {5, 7, 6, 3, 1, 2};
    for (int d = 0; d < 6; d++) {
      edge(promise, "with ! it is not turned: a stone in the direction " + d,
          "tape(o.....!)= pattern()=0 tape(o.....)= pattern()=1 game(0,3,3)=9",
        "move(" + around[d] + ")=-1",
          name + "(0,0)=" + (d == 0 ? 16 : 0), name + "(1,0)=16 " + name + "(1,1)=0");
    }
    edge(promise, "with ! it is not turned: corners", "game(0,3,3)=9 tape(..####!)= pattern()=0",
        "tape(###..#!)= pattern()=1 tape(#...##!)= pattern()=2 tape(...###!)= pattern()=3",
        name + "(0,0)=1 " + name + "(1,0)=256 " + name + "(2,0)=4 " + name + "(3,0)=0");
    edge(promise, "! is of its own alternative alone",
        "game(0,3,3)=9 tape(..####!|...###)= pattern()=0",
        "tape(..####|...###!)= pattern()=1 tape(..####!|.###..!)= pattern()=2 " + name + "(0,0)=69",
        name + "(1,0)=257 " + name + "(2,0)=65");
  }

  private static void alternatives(int promise, String name) {
    edge(promise, "where one of its alternatives does: the first, the last one of four",
        "game(0,3,3)=9 tape(..####!|oooooo|xxxxxx|oxoxox)= pattern()=0",
        "tape(oooooo|xxxxxx|oxoxox|..####!)= pattern()=1 tape(oooooo|..####!|xxxxxx|oxoxox)=",
        "pattern()=2 tape(oooooo|xxxxxx!|..####!|oxoxox)= pattern()=3",
        "tape(oooooo|xxxxxx|oxoxox|x.x.x.)= pattern()=4",
        name + "(0,0)=1 " + name + "(1,0)=1 " + name + "(2,0)=1 " + name + "(3,0)=1",
        name + "(4,0)=0");
    edge(promise, "where one of its alternatives does: each for cells of its own",
        "game(0,3,3)=9 tape(" + LONGEST + ")= pattern()=0 " + name + "(0,0)=277 move(4)=-1",
        name + "(0,0)=257 move(0)=-1 " + name + "(0,1)=256");
    edge(promise, "each pattern has its own characters, the sixth one too",
        "game(0,3,3)=9 tape(" + LONGEST + ")= pattern()=0 tape(..####!)= pattern()=1",
        "tape(###..#!)= pattern()=2 tape(......)= pattern()=3 tape(******)= pattern()=4",
        "tape(#*****!|*#****!|**#***!|***#**)= pattern()=5 " + name + "(0,0)=277",
        name + "(1,0)=1",
        name + "(2,0)=256 " + name + "(3,0)=16 " + name + "(4,0)=511 " + name + "(5,0)=495");
  }

  private static void overTheSeam(int promise, String name) {
    edge(promise, "behind the last column of a CYLINDER the first one comes again",
        "game(2,2,4)=8 move(0)=-1 tape(o*****!)= pattern()=0 tape(***o**!)= pattern()=1",
        "tape(*****o!)= pattern()=2",
        "tape(****o*!)= pattern()=3 " + name + "(0,0)=8 " + name + "(1,0)=2",
        name + "(2,0)=128 " + name + "(3,0)=16 undo()=0 move(7)=-1 tape(**o***!)= pattern()=4",
        name + "(4,0)=1 " + name + "(1,0)=16 " + name + "(0,0)=64");
    edge(promise, "on a CYLINDER no cell lacks above the first row and below the last one alone",
        "game(2,3,4)=12 tape(#*****!)= pattern()=0 tape(***#**!)= pattern()=1 tape(....##!)=",
        "pattern()=2 tape(.##...!)= pattern()=3",
        "tape(......)= pattern()=4 " + name + "(0,0)=0 " + name + "(1,0)=0",
        name + "(2,0)=15 " + name + "(3,0)=3840 " + name + "(4,0)=240");
    edge(promise, "on a RHOMB there is no seam", "game(0,2,4)=8 move(0)=-1",
        "tape(o*****!)= pattern()=0",
        "tape(***o**!)= pattern()=1 " + name + "(0,0)=0 " + name + "(1,0)=2");
  }

  private static void patternsStay(int promise, String name) {
    edge(promise, "they stay when a game begins, and are told of its board",
        "tape(..####)= pattern()=0 " + name + "(0,0)=9 game(0,3,3)=9 " + name + "(0,0)=257",
        "game(1,3,3)=6 " + name + "(0,0)=41 game(2,3,3)=9 " + name + "(0,0)=0 game(0,2,2)=4",
        name + "(0,0)=9");
    edge(promise, "they stay whatever is typed then", "tape(..####!)= pattern()=0 tape(oooooo!)=",
        name + "(0,0)=1 wipe()=7 " + name + "(0,0)=1 tape(******)= pattern()=1 " + name + "(0,0)=1",
        name + "(1,0)=15");
    edge(promise, "it is asked, and changes nothing", "tape(..####!)= pattern()=0 tape(ox)=",
        name + "(0,0)=1 " + name + "(0,1)=1 fault()=2 wipe()=2 told(0)=0 told(2)=4");
  }
}
