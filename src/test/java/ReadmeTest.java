import java.io.IOException;
import java.lang.reflect.Method;
import java.nio.file.Files;
import java.nio.file.Path;
import java.util.HashMap;
import java.util.List;
import java.util.Map;
import java.util.Set;
import java.util.TreeSet;
import java.util.regex.Matcher;
import java.util.regex.Pattern;
import java.util.stream.Stream;

/**
 * What README.md shows of calls and answers holds: its rows of Java are one run of calls on one
 * object. It shows each call of the face, and names each test. It runs in the project's folder.
 */
public final class ReadmeTest {
  private static final String MAKING = "FieldsByDots dots = new FieldsByDots();";
  private static final Pattern ROW =
      Pattern.compile("dots\\.(\\w+)\\((.*)\\); +// (-?\\d+)(?: \\((\\w+)\\))?: \\S.*");
  private static final Pattern TEST = Pattern.compile("`(\\w+Test)`");
  private static final int MOST_CALLS = 512;
  private static final Due D = new Due("ReadmeTest");
  private static final Map<String, Method> FACE = new HashMap<>();

  public static void main(String[] args) throws IOException, ReflectiveOperationException {
    for (Method m : FieldsByDots.class.getDeclaredMethods()) {
      if (java.lang.reflect.Modifier.isPublic(m.getModifiers())) {
        FACE.put(m.getName(), m);
      }
    }
    List<String> lines = Files.readAllLines(Path.of("README.md"));
    runRows(lines);
    checkTests(String.join("\n", lines));
    D.end();
  }

  private static void runRows(List<String> lines) throws ReflectiveOperationException {
    FieldsByDots dots = null;
    Set<String> shown = new TreeSet<>();
    int calls = 0;
    boolean isJava = false;
    for (String line : lines) {
      if (line.startsWith("```")) {
        isJava = line.equals("```java");
      } else if (isJava && line.equals(MAKING)) {
        dots = new FieldsByDots();
        calls = 0;
      } else if (isJava) {
        calls++;
        runRow(dots, line, shown);
        D.due("calls up to " + line, Math.max(calls, MOST_CALLS), MOST_CALLS);
      }
    }
    if (!shown.equals(FACE.keySet())) {
      D.fail("calls shown are " + shown + ", due are " + new TreeSet<>(FACE.keySet()));
    }
  }

  private static void runRow(FieldsByDots dots, String line, Set<String> shown)
      throws ReflectiveOperationException {
    Matcher row = ROW.matcher(line);
    Method m = row.matches() ? FACE.get(row.group(1)) : null;
    if (m == null || dots == null) {
      D.fail("no call with its answer: " + line);
      return;
    }
    shown.add(m.getName());
    long got = ((Number) m.invoke(dots, arguments(m, row.group(2)))).longValue();
    D.due(line, got, Long.parseLong(row.group(3)));
    boolean isNamed = row.group(4) != null;
    D.due("told by a name: " + line, isNamed ? 1 : 0, got < 0 ? 1 : 0);
    if (isNamed) {
      D.due(line, got, FieldsByDots.class.getField(row.group(4)).getInt(null));
    }
  }

  private static Object[] arguments(Method m, String told) {
    String[] words = told.isEmpty() ? new String[0] : told.split(", ");
    if (words.length != m.getParameterCount()) {
      throw new IllegalArgumentException(m.getName() + "(" + told + ")");
    }
    Object[] all = new Object[words.length];
    for (int i = 0; i < words.length; i++) {
      if (m.getParameterTypes()[i] == long.class) {
        all[i] = Long.decode(words[i].replaceAll("L$", ""));
      } else {
        all[i] = Integer.decode(words[i]);
      }
    }
    return all;
  }

  /** The tests that are named are those that there are. */
  private static void checkTests(String page) throws IOException {
    Set<String> named = new TreeSet<>();
    Matcher m = TEST.matcher(page);
    while (m.find()) {
      named.add(m.group(1));
    }
    Set<String> there = new TreeSet<>();
    try (Stream<Path> files = Files.list(Path.of("src/test/java"))) {
      files.map(file -> file.getFileName().toString()).filter(name -> name.endsWith("Test.java"))
          .forEach(name -> there.add(name.replace(".java", "")));
    }
    if (!named.equals(there)) {
      D.fail("tests named are " + named + ", there are " + there);
    }
    D.due("README.md names .ci/run", page.contains("`.ci/run`") ? 1 : 0, 1);
    D.due(".ci/run can be run", Files.isExecutable(Path.of(".ci/run")) ? 1 : 0, 1);
  }
}
