import java.util.List;

/**
 * What can be told of a court behind some calls: all that it answers, and how it goes on. Each of
 * the probes has objects of its own, led through these calls, so that none makes over 512.
 */
final class Everything {
  private static final int MOST_CALLS = 512;
  private static final int MOST_CELLS = 36;
  /** How many calls each probe makes at most. */
  private static final int[] LENGTHS = {32, 40, 24, 180, 43, 115, 24, 8, 8, 12, 14, 6};

  private final StringBuilder text = new StringBuilder();
  private Linkcourt court;

  private Everything() {
  }

  /** The calls are texts as Script performs them; so many have been made, or more. */
  static String of(List<String> calls, int made) {
    Everything everything = new Everything();
    for (int probe = 0; probe < LENGTHS.length; probe++) {
      if (made + LENGTHS[probe] <= MOST_CALLS) {
        everything.court = new Linkcourt();
        for (String call : calls) {
          Script.perform(everything.court, call);
        }
        everything.probe(probe);
      }
    }
    return everything.text.toString();
  }

  /** The first line in which two texts are not the same. */
  static String firstOther(String one, String other) {
    String[] ones = one.split("\n"), others = other.split("\n");
    for (int i = 0; i < ones.length && i < others.length; i++) {
      if (!ones[i].equals(others[i])) {
        return ones[i] + ", not " + others[i];
      }
    }
    return ones.length == others.length ? "nothing" : "how many lines";
  }

  private String ask(String name, long... arguments) {
    String answer = Calls.answer(court, name, arguments);
    text.append(Calls.text(name, arguments)).append('=').append(answer).append('\n');
    return answer;
  }

  private void probe(int probe) {
    switch (probe) {
      case 0: ofGame(); break;
      case 1: ofPersons(); break;
      case 2: ofPatterns(); break;
      case 3: ofCells(); break;
      case 4: ofBestPlay(); break;
      case 5: takenBack(); break;
      case 6: typedOn(); break;
      case 7: movedOn(); break;
      case 8: swapped(); break;
      case 9: thoughtOn(); break;
      case 10: clockedAndRecorded(); break;
      default: begunAnew(); break;
    }
  }

  private void ofGame() {
    for (int what = 0; what <= 6; what++) {
      ask("told", what);
    }
    ofClocks();
    for (String name : new String[] {"best", "wins", "lasts", "dead", "fault"}) {
      ask(name);
    }
    ask("far", 0);
    ask("far", 1);
    ask("plays", 3, 5);
    ask("playedOut", 5);
    ask("neighbour", 2, 0);
    ask("neighbour", 3, 2);
    ask("cell", 3, 4);
    ask("cell", 21, 4);
  }

  private void ofClocks() {
    for (int i = 0; i < 6; i++) {
      ask("clock", i / 3, i % 3);
    }
  }

  private void ofPersons() {
    for (int i = 0; i < 40; i++) {
      ask("ofPerson", i / 4, i % 4);
    }
  }

  private void ofPatterns() {
    for (int i = 0; i < 12; i++) {
      ask("fits", i / 2, i % 2);
      ask("fitsAnew", i / 2, i % 2);
    }
  }

  private void ofCells() {
    for (int cell = 0; cell < MOST_CELLS; cell++) {
      for (int what = 0; what < 5; what++) {
        ask("cell", cell, what < 4 ? what : 6);
      }
    }
  }

  private void ofBestPlay() {
    for (int number = 0; number <= MOST_CELLS; number++) {
      ask("gaveAway", number);
    }
    for (int player = 0; player < 2; player++) {
      ask("carrier", player, 100, 101);
      ask("carrier", player, 101, 102);
      ask("answer", player, 101, 100, 1);
    }
  }

  private void takenBack() {
    for (int i = 0; i <= MOST_CELLS + 1 && ask("undo").charAt(0) != 't'; i++) {
      ask("told", 3);
      ask("told", 2);
    }
  }

  private void typedOn() {
    ask("type", '*', 1);
    ask("fault");
    ask("wipe");
    for (int i = 0; i < 7; i++) {
      ask("type", Script.packed("o*x#.*!"), 7);
      ask("pattern");
      ask("fits", i, 0);
    }
  }

  private void movedOn() {
    for (int cell = 0; cell < 4; cell++) {
      ask("move", cell);
      ask("told", 4);
    }
  }

  private void swapped() {
    ask("swap");
    ask("told", 0);
    ofClocks();
  }

  private void thoughtOn() {
    ask("think", 7);
    ofClocks();
    ask("think", 600);
    ask("told", 4);
    ask("clock", 0, 2);
    ask("clock", 1, 2);
  }

  private void clockedAndRecorded() {
    ask("clocks", 0, 2, 9);
    ask("think", 18);
    ask("person");
    ask("record", 1, 0);
    for (int i = 0; i < 8; i++) {
      ask("ofPerson", i / 4, i % 4);
    }
    ask("undo");
    ask("person");
  }

  private void begunAnew() {
    ask("game", 2, 3, 3);
    ask("wins");
    ask("move", 4);
    ask("undo");
    ask("clock", 0, 1);
    ask("fits", 0, 0);
  }
}
