import java.io.IOException;
import java.nio.charset.StandardCharsets;
import java.nio.file.Files;
import java.nio.file.Paths;
import java.util.Set;
import java.util.TreeSet;
import java.util.regex.Matcher;
import java.util.regex.Pattern;

/**
 * The calls that README.md shows are made, in their order, and answer what stands behind them; so
 * does the Oracle.
 */
public final class ReadmeTest {
  private static final Pattern CALL =
      Pattern.compile(" {4}court\\.(\\w+)\\((.*)\\); *// (?:throws )?(\\S+)");

  private ReadmeTest() {
  }

  public static void main(String[] args) throws IOException {
    Object court = null, oracle = null;
    int calls = 0, wrong = 0;
    Set<String> shown = new TreeSet<>();
    for (String line : Files.readAllLines(Paths.get("README.md"), StandardCharsets.UTF_8)) {
      Matcher call = CALL.matcher(line);
      if (line.equals("    Linkcourt court = new Linkcourt();")) {
        court = new Linkcourt();
        oracle = new Oracle();
      } else if (call.matches()) {
        String due = due(call.group(3));
        shown.add(call.group(1));
        calls++;
        for (Object one : new Object[] {court, oracle}) {
          String got = Calls.answer(one, call.group(1), numbers(call.group(2)));
          if (!got.equals(due)) {
            wrong++;
            System.out.println("README.md: " + line.trim() + " answered " + got);
          }
        }
      } else if (line.startsWith("    court.")) {
        wrong++;
        System.out.println("README.md: no answer stands behind " + line.trim());
      }
    }
    System.out.println("ReadmeTest: " + calls + " calls of " + shown.size() + " kinds, " + wrong
        + " not as due");
    if (wrong != 0 || shown.size() < 29) {
      System.exit(1);
    }
  }

  private static long[] numbers(String text) {
    String[] texts = text.isEmpty() ? new String[0] : text.split(", ");
    long[] numbers = new long[texts.length];
    for (int i = 0; i < texts.length; i++) {
      numbers[i] = number(texts[i]);
    }
    return numbers;
  }

  private static long number(String text) {
    switch (text) {
      case "Linkcourt.RHOMB": return Linkcourt.RHOMB;
      case "Linkcourt.TRIANGLE": return Linkcourt.TRIANGLE;
      case "Linkcourt.CYLINDER": return Linkcourt.CYLINDER;
      default: return text.charAt(0) == '\'' ? text.charAt(1)
          : Long.decode(text.replace("L", ""));
    }
  }

  private static String due(String text) {
    return text.equals("NONE") ? "-1" : text.equals("true") ? "1" : text.equals("false") ? "0"
        : text.endsWith("Exception") ? "throws." + text : text;
  }
}
