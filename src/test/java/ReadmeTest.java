import java.io.IOException;
import java.lang.reflect.InvocationTargetException;
import java.lang.reflect.Method;
import java.lang.reflect.Modifier;
import java.nio.file.DirectoryStream;
import java.nio.file.Files;
import java.nio.file.Path;
import java.util.HashMap;
import java.util.List;
import java.util.Map;
import java.util.Set;
import java.util.TreeSet;
import java.util.regex.Matcher;
import java.util.regex.Pattern;

/** Runs the calls that README.md shows in its java blocks, and holds what they answer against what it tells. */
public final class ReadmeTest {
  private static final Pattern MAKING = Pattern.compile("HayVotes (\\w+) = new HayVotes\\(\\);");
  private static final Pattern CALL = Pattern.compile("(\\w+)\\.(\\w+)\\(([^()]*)\\);\\s*// (-?\\d+|true|false)(?![\\w.])(.*)");
  private static final Pattern QUOTED = Pattern.compile("\"([^\"]*)\"");
  private static final int MOST_CALLS = 512;

  private static int wrong = 0;
  private static int answers = 0;

  private final Map<String, HayVotes> meadows = new HashMap<>();
  private final Map<String, Integer> calls = new HashMap<>();
  private final Set<String> shown = new TreeSet<>();

  public static void main(String[] args) throws Exception {
    Path readme = Path.of(System.getProperty("hayvotes.readme", "README.md")).toAbsolutePath();
    List<String> lines = Files.readAllLines(readme);
    ReadmeTest test = new ReadmeTest();
    test.blocks(lines);
    test.allAreShown();
    allAreInTheTable(lines);
    testsAreNamed(lines, readme.getParent().resolve("src/test/java"));
    System.out.println(wrong == 0 ? answers + " calls of README.md, all as it tells" : wrong + " things in README.md are not so");
    if (wrong != 0) {
      System.exit(1);
    }
  }

  private static void must(boolean right, String text) {
    if (!right) {
      wrong++;
      System.out.println("README.md: " + text);
    }
  }

  /** A block stands for itself: its meadows are its own. */
  private void blocks(List<String> lines) throws IllegalAccessException {
    boolean inside = false;
    for (int i = 0; i < lines.size(); i++) {
      String line = lines.get(i).trim();
      if (line.startsWith("```")) {
        inside = !inside;
        must(!inside || line.equals("```java"), "line " + (i + 1) + ": a block that is not java");
        meadows.clear();
        calls.clear();
      } else if (inside && !line.isEmpty()) {
        line("line " + (i + 1) + ": " + line, line);
      }
    }
    must(!inside, "a block has no end");
  }

  private void line(String place, String line) throws IllegalAccessException {
    Matcher making = MAKING.matcher(line);
    if (making.matches()) {
      meadows.put(making.group(1), new HayVotes());
      calls.put(making.group(1), 0);
      return;
    }
    Matcher call = CALL.matcher(line);
    if (!call.matches() || !meadows.containsKey(call.group(1))) {
      must(false, place + ": neither a new object nor a call with its answer");
      return;
    }
    must(calls.merge(call.group(1), 1, Integer::sum) <= MOST_CALLS, place + ": a call too many");
    String[] arguments = call.group(3).isBlank() ? new String[0] : call.group(3).split(",");
    String got = answer(meadows.get(call.group(1)), call.group(2), arguments);
    answers++;
    must(got.equals(call.group(4)), place + ": answered " + got);
    Matcher quoted = QUOTED.matcher(call.group(5));
    if (call.group(2).equals("feed") && quoted.find()) {
      must(textOf(arguments).equals(quoted.group(1)), place + ": these bytes are " + textOf(arguments));
    }
    shown.add(call.group(2));
  }

  private static String answer(HayVotes meadow, String name, String[] arguments) throws IllegalAccessException {
    for (Method m : HayVotes.class.getDeclaredMethods()) {
      if (m.getName().equals(name) && Modifier.isPublic(m.getModifiers()) && m.getParameterCount() == arguments.length) {
        Object[] values = new Object[arguments.length];
        for (int i = 0; i < values.length; i++) {
          boolean truth = m.getParameterTypes()[i] == boolean.class;
          values[i] = truth ? (Object) arguments[i].trim().equals("true") : (Object) number(arguments[i]);
        }
        try {
          return String.valueOf(m.invoke(meadow, values));
        } catch (InvocationTargetException e) {
          return "by throwing " + e.getCause();
        }
      }
    }
    return "nothing: there is no such method";
  }

  private static int number(String text) {
    String plain = text.trim();
    return plain.equals("HayVotes.NONE") ? HayVotes.NONE : (int) (long) Long.decode(plain);
  }

  /** The text that a meal holds, without the bytes of 0 at its end. */
  private static String textOf(String[] arguments) {
    StringBuilder text = new StringBuilder();
    for (String argument : arguments) {
      for (int shift = 24; shift >= 0; shift -= 8) {
        text.append((char) (number(argument) >>> shift & 255));
      }
    }
    return text.toString().replaceAll("\0+$", "");
  }

  private static Set<String> face() {
    Set<String> names = new TreeSet<>();
    for (Method m : HayVotes.class.getDeclaredMethods()) {
      if (Modifier.isPublic(m.getModifiers())) {
        names.add(m.getName());
      }
    }
    return names;
  }

  private void allAreShown() {
    Set<String> missing = face();
    missing.removeAll(shown);
    must(missing.isEmpty(), "no call is shown of " + missing);
  }

  /** The table of what refused calls answer has each method of the face, once. */
  private static void allAreInTheTable(List<String> lines) {
    Set<String> missing = face();
    for (String line : lines) {
      if (line.startsWith("| `")) {
        Matcher name = Pattern.compile("`(\\w+)`").matcher(line.substring(0, line.indexOf('|', 1)));
        while (name.find()) {
          must(missing.remove(name.group(1)), "the table has " + name.group(1) + " twice, or there is no such method");
        }
      }
    }
    must(missing.isEmpty(), "the table has no " + missing);
  }

  private static void testsAreNamed(List<String> lines, Path tests) throws IOException {
    String all = String.join("\n", lines);
    try (DirectoryStream<Path> files = Files.newDirectoryStream(tests, "*.java")) {
      for (Path file : files) {
        String name = file.getFileName().toString().replace(".java", "");
        must(all.contains("\n- `" + name), "the test " + name + " is not told");
      }
    }
  }
}
