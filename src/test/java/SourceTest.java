import java.io.IOException;
import java.nio.charset.StandardCharsets;
import java.nio.file.Files;
import java.nio.file.Path;
import java.nio.file.Paths;
import java.util.ArrayList;
import java.util.Arrays;
import java.util.List;
import java.util.Set;
import java.util.TreeSet;
import java.util.regex.Matcher;
import java.util.regex.Pattern;

/** What of ../shared/LANGUAGE.md the text of the program shows is kept; rules by their numbers. */
public final class SourceTest {
  private static final Path SOURCE = Paths.get("src/main/java/Linkcourt.java");
  private static final int MOST_LINES = 60;
  /** The library, so far as rule 4 lists it, and the exceptions of rule 6. */
  private static final Set<String> LIBRARY = new TreeSet<>(Arrays.asList("String", "StringBuilder",
      "ArrayList", "List", "Integer", "Long", "Math", "System", "Arrays", "Iterator", "Iterable",
      "Comparable", "IllegalStateException", "IllegalArgumentException",
      "IndexOutOfBoundsException", "ArithmeticException", "UnsupportedOperationException",
      "NoSuchElementException", "RuntimeException"));
  private static final Set<String> STATICS = new TreeSet<>(Arrays.asList("Math.abs", "Math.max",
      "Math.min", "Math.floorDiv", "Math.floorMod", "Long.bitCount", "Long.compare", "Long.max",
      "Long.min", "Integer.bitCount", "Integer.compare", "Integer.max", "Integer.min",
      "Arrays.fill", "Arrays.copyOf", "Arrays.copyOfRange", "System.arraycopy", "List.of"));

  private static int wrong = 0;

  private SourceTest() {
  }

  public static void main(String[] args) throws IOException {
    String text = new String(Files.readAllBytes(SOURCE), StandardCharsets.ISO_8859_1);
    String bare = bare(text);
    checkWords(text, bare);
    checkNames(bare);
    checkThrows(bare);
    checkMethods(bare);
    System.out.println("SourceTest: " + wrong + " things are not as due");
    if (wrong != 0) {
      System.exit(1);
    }
  }

  private static void that(boolean holds, String what) {
    if (!holds) {
      wrong++;
      System.out.println("not so: " + what);
    }
  }

  /** Without comments, and with empty texts and signs; as many lines as before. */
  private static String bare(String text) {
    Matcher parts = Pattern.compile(
        "/\\*.*?\\*/|//[^\n]*|\"(?:\\\\.|[^\"\\\\])*\"|'(?:\\\\.|[^'\\\\])+'", Pattern.DOTALL)
        .matcher(text);
    StringBuilder bare = new StringBuilder();
    int from = 0;
    while (parts.find()) {
      bare.append(text, from, parts.start());
      char first = parts.group().charAt(0);
      bare.append(first == '/' ? parts.group().replaceAll("[^\n]", "") : "" + first + first);
      from = parts.end();
    }
    return bare.append(text.substring(from)).toString();
  }

  private static void checkWords(String text, String bare) {
    for (char sign : text.toCharArray()) {
      that(sign == '\n' || sign >= ' ' && sign < 127, "rule 4: signs are 1 to 127, not " + sign);
    }
    for (String word : new String[] {"package", "synchronized", "assert", "finally", "native",
        "transient", "volatile", "protected", "try", "catch", "var", "float", "double"}) {
      that(!Pattern.compile("\\b" + word + "\\b").matcher(bare).find(), "no " + word);
    }
    that(!bare.contains("->") && !bare.contains("::"), "rule 2: no lambda, no method reference");
    that(!bare.contains("@"), "no annotation");
    that(!Pattern.compile("\\bstatic\\s*\\{").matcher(bare).find(), "rule 5: no static block");
    that(!Pattern.compile("\"\"\\s*\\+|\\+\\s*\"\"").matcher(bare).find(), "rule 10: texts by +");
    that(!Pattern.compile("while \\(true\\)|for \\(;").matcher(bare).find(), "rule 9: loops end");
    that(!Pattern.compile("\\[\\]\\s*\\[\\]\\s*\\[\\]").matcher(bare).find(), "rule 3: rows");
  }

  private static List<String> all(String pattern, String bare) {
    List<String> found = new ArrayList<>();
    Matcher matcher = Pattern.compile(pattern).matcher(bare);
    while (matcher.find()) {
      found.add(matcher.group(1));
    }
    return found;
  }

  private static void checkNames(String bare) {
    for (String name : all("import ([^;]*);", bare)) {
      that(name.matches("java\\.util\\.(Arrays|ArrayList|List|Iterator|NoSuchElementException)"),
          "rule 4: import " + name);
    }
    Set<String> own = new TreeSet<>(all("\\b(?:class|enum|interface|record) (\\w+)", bare));
    that(own.size() <= 12, "rule 11: some twelve classes, not " + own.size());
    for (String name : all("\\b([A-Z]\\w*[a-z]\\w*)\\b", bare)) {
      that(own.contains(name) || LIBRARY.contains(name), "rule 4: " + name);
    }
    for (String name : all("\\b((?:Math|Long|Integer|Arrays|System|List)\\.\\w+)", bare)) {
      that(STATICS.contains(name), "rule 4: " + name);
    }
  }

  /** Each throw makes one of the exceptions, with a written text or none, in no constructor. */
  private static void checkThrows(String bare) {
    int thrown = all("\\b(throw)\\b", bare).size();
    that(thrown == all("throw new (\\w+)\\((?:\"\")?\\);", bare).size(), "rule 6: throw new E()");
    for (String name : all("throw new (\\w+)", bare)) {
      that(LIBRARY.contains(name) && name.endsWith("Exception"), "rule 6: " + name);
    }
    // rule 12: what is made is made by fields and constructors, so that no call adds to it
    Set<String> own = new TreeSet<>(all("\\bclass (\\w+)", bare));
    for (String made : all("\\bnew (\\w+)", bare)) {
      that(own.contains(made) || made.endsWith("Exception")
          || made.matches("int|long|byte|char|boolean|short"), "rule 12: new " + made);
    }
  }

  /** Methods by the way they are written here: a header that ends with {, a line of its own. */
  private static void checkMethods(String bare) {
    String[] lines = bare.split("\n", -1);
    for (int i = 0; i < lines.length; i++) {
      Matcher header = Pattern.compile("^( {2}| {4})\\S.*\\b(\\w+)\\(.*").matcher(lines[i]);
      if (!header.matches() || lines[i].endsWith(";")) {
        continue;
      }
      int end = i;
      while (end < lines.length && !lines[end].equals(header.group(1) + "}")) {
        end++;
      }
      String head = lines[i].endsWith("{") ? lines[i] : lines[i] + lines[i + 1];
      int parameters = head.replaceAll("^[^(]*\\(|\\).*$", "").split(",").length;
      that(end - i < MOST_LINES, "rule 11: " + header.group(2) + " has " + (end - i) + " lines");
      that(parameters <= 7, "rule 11: " + header.group(2) + " has " + parameters + " parameters");
    }
  }
}
