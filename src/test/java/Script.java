/**
 * Runs of calls, each on a new object, written as call=answer. An answer is a number, nothing (a
 * call without one), or IOOBE, IAE, ISE: the exception that is due. The Oracle is asked the same,
 * so that a slip in what is written here shows too.
 */
final class Script {
  static int wrong = 0;
  static int calls = 0;

  private Script() {
  }

  /** Runs the calls of all parts, one behind the other, on one new object. */
  static void run(int promise, String... parts) {
    Linkcourt court = new Linkcourt();
    Oracle oracle = new Oracle();
    for (String part : parts) {
      for (String call : part.trim().split("\\s+")) {
        int open = call.indexOf('('), close = call.indexOf(')');
        String name = call.substring(0, open);
        String given = call.substring(open + 1, close);
        if (name.equals("tape")) {
          tape(court, oracle, given);
        } else {
          compare(promise, court, oracle, name, numbers(given), full(call.substring(close + 2)));
        }
      }
    }
  }

  private static void compare(int promise, Linkcourt court, Oracle oracle, String name,
      long[] arguments, String due) {
    String got = Calls.answer(court, name, arguments);
    that(promise, got.equals(due), Calls.text(name, arguments) + " answered " + got + ", due is "
        + due);
    if (!name.equals("far") || oracle.told(2) <= 16) {
      String literal = Calls.answer(oracle, name, arguments);
      that(promise, literal.equals(due), "the Oracle: " + Calls.text(name, arguments)
          + " answered " + literal + ", due is " + due);
    }
  }

  static void that(int promise, boolean holds, String what) {
    calls++;
    if (!holds) {
      wrong++;
      System.out.println("promise " + promise + ": " + what);
    }
  }

  private static long[] numbers(String given) {
    String[] texts = given.isEmpty() ? new String[0] : given.split(",");
    long[] numbers = new long[texts.length];
    for (int i = 0; i < texts.length; i++) {
      numbers[i] = Long.parseLong(texts[i]);
    }
    return numbers;
  }

  private static String full(String due) {
    switch (due) {
      case "IOOBE": return "throws.IndexOutOfBoundsException";
      case "IAE": return "throws.IllegalArgumentException";
      case "ISE": return "throws.IllegalStateException";
      default: return due;
    }
  }

  /** tape(text)= wipes the tape and types a text, eight characters at a time. */
  private static void tape(Linkcourt court, Oracle oracle, String text) {
    court.wipe();
    oracle.wipe();
    for (int at = 0; at < text.length(); at += 8) {
      String some = text.substring(at, Math.min(text.length(), at + 8));
      long characters = 0;
      for (int i = 0; i < some.length(); i++) {
        characters |= (long) some.charAt(i) << 8 * i;
      }
      court.type(characters, some.length());
      oracle.type(characters, some.length());
    }
  }
}
