import java.util.ArrayList;
import java.util.List;

/**
 * Runs of calls, each on a new object, written as call=answer. An answer is a number, nothing (a
 * call without one), or IOOBE, IAE, ISE: the exception that is due. The Oracle is asked the same,
 * so that a slip in what is written here shows too. Where calls are refused, a second object is
 * led through the same run without them: it must not be told from the first one.
 */
final class Script {
  /** Games that begin, and are won by joining. */
  static final String WON_BY_0 = " game(0,2,2)=4 move(0)=-1 move(3)=-1 move(1)=0 ";
  static final String WON_BY_1 = " game(0,2,2)=4 move(0)=-1 move(1)=-1 move(3)=-1 move(2)=1 ";

  static int wrong = 0;
  static int calls = 0;
  static int edges = 0;
  private static final int[] edgesOf = new int[31];

  private final String label;
  private final Linkcourt court = new Linkcourt();
  private final Oracle oracle = new Oracle();
  private final List<String> made = new ArrayList<>();
  private final List<String> kept = new ArrayList<>();
  private boolean refused = false;
  private boolean failed = false;
  private int count = 0;

  private Script(String label) {
    this.label = label;
  }

  /** Runs the calls of all parts, one behind the other, on one new object. */
  static void run(int promise, String... parts) {
    new Script("promise " + promise).runAll(parts);
  }

  /** The same for one sentence of the document, or what it says of one boundary case. */
  static void edge(int promise, String sentence, String... parts) {
    count(promise);
    new Script("promise " + promise + ", " + sentence).runAll(parts);
  }

  static void that(int promise, boolean holds, String what) {
    that("promise " + promise, holds, what);
  }

  /** As edge, where a test asks by itself. */
  static void count(int promise) {
    edges++;
    edgesOf[promise]++;
  }

  /** How many sentences of a promise were held. */
  static int edgesOf(int promise) {
    return edgesOf[promise];
  }

  static void that(String label, boolean holds, String what) {
    calls++;
    if (!holds) {
      wrong++;
      System.out.println(label + ": " + what);
    }
  }

  /** Runs until an answer is not the one that is due: what comes behind it says nothing more. */
  private void runAll(String... parts) {
    for (String part : parts) {
      for (String call : part.trim().split("\\s+")) {
        if (!call.isEmpty() && !failed) {
          take(call);
        }
      }
    }
    checkNothingChanged();
    check(count <= 512, "the run has " + count + " calls");
  }

  private void check(boolean holds, String what) {
    that(label, holds, what);
    failed |= !holds;
  }

  private void take(String call) {
    int close = call.indexOf(')');
    String text = call.substring(0, close + 1), due = full(call.substring(close + 2));
    if (due.startsWith("throws.")) {
      refused = true;
    } else {
      checkNothingChanged();
      kept.add(text);
    }
    made.add(text);
    count += text.startsWith("tape(") ? 1 + (text.length() + 1) / 8 : 1;
    if (text.startsWith("tape(")) {
      perform(court, text);
      perform(oracle, text);
      return;
    }
    String got = perform(court, text), literal = perform(oracle, text);
    check(got.equals(due), text + " answered " + got + ", due is " + due);
    check(literal.equals(due), "the Oracle: " + text + " answered " + literal + ", due is " + due);
  }

  /** A call that throws an exception changes nothing. */
  private void checkNothingChanged() {
    if (refused && !failed) {
      String with = Everything.of(made, count), without = Everything.of(kept, count);
      check(with.equals(without), "what was refused up to " + made.get(made.size() - 1)
          + " changed something: " + Everything.firstOther(with, without));
    }
    refused = false;
  }

  /** One call, given as its text; tape(text) wipes the tape and types a text. */
  static String perform(Object court, String call) {
    int open = call.indexOf('('), close = call.lastIndexOf(')');
    String name = call.substring(0, open), given = call.substring(open + 1, close);
    if (name.equals("tape")) {
      tape(court, given);
      return "";
    }
    String[] texts = given.isEmpty() ? new String[0] : given.split(",");
    long[] numbers = new long[texts.length];
    for (int i = 0; i < texts.length; i++) {
      numbers[i] = Long.parseLong(texts[i]);
    }
    return Calls.answer(court, name, numbers);
  }

  /** Types eight characters at a time. */
  private static void tape(Object court, String text) {
    Calls.answer(court, "wipe");
    for (int at = 0; at < text.length(); at += 8) {
      String some = text.substring(at, Math.min(text.length(), at + 8));
      Calls.answer(court, "type", packed(some), some.length());
    }
  }

  /** Characters as type takes them: the first one in the lowest 8 bits. */
  static long packed(String text) {
    long characters = 0;
    for (int i = 0; i < text.length(); i++) {
      characters |= (long) text.charAt(i) << 8 * i;
    }
    return characters;
  }

  private static String full(String due) {
    switch (due) {
      case "IOOBE": return "throws.IndexOutOfBoundsException";
      case "IAE": return "throws.IllegalArgumentException";
      case "ISE": return "throws.IllegalStateException";
      default: return due;
    }
  }
}
