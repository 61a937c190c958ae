import java.io.IOException;
import java.nio.file.Files;
import java.nio.file.Path;
import java.util.List;
import java.util.regex.Matcher;
import java.util.regex.Pattern;

/** The rules of LANGUAGE.md that can be seen in the source's text. It runs in the project's folder. */
public final class SourceRulesTest {
  private static final Path SOURCE = Path.of("src/main/java/FieldsByDots.java");
  private static final int LONGEST_METHOD = 60;
  private static final int MOST_CLASSES = 12;
  private static final int MOST_PARAMETERS = 7;
  private static final Due D = new Due("SourceRulesTest");

  /** What no line but a comment may hold, each with the number of its rule. */
  private static final String[] FORBIDDEN = {
    "1: \\bprotected\\b", "2: ->", "2: ::", "2: \\brecord\\b", "3: \\bdouble\\b|\\bfloat\\b",
    "4: \\bimport\\b|\\bjava\\.|\\bpackage\\b", "4: Exact\\(", "4: System\\.(?!arraycopy)",
    "6: \\bthrow\\b|\\bthrows\\b|\\btry\\b|\\bcatch\\b|\\bfinally\\b",
    "6: \\bsynchronized\\b|\\bassert\\b", "6: \\b(hashCode|toString)\\b|\\.equals\\(",
    "9: while \\(true\\)|for \\(;;", "10: \"", "13: \\bThread\\b|\\bRandom\\b|\\bRuntime\\b",
  };

  public static void main(String[] args) throws IOException {
    List<String> lines = Files.readAllLines(SOURCE);
    String code = withoutComments(String.join("\n", lines));
    for (String rule : FORBIDDEN) {
      String pattern = rule.substring(rule.indexOf(' ') + 1);
      Matcher found = Pattern.compile(pattern).matcher(code);
      D.due("rule " + rule, found.find() ? 1 : 0, 0);
    }
    D.due("signs above 127", code.chars().filter(c -> c > 127).count(), 0);
    checkStatics(code);
    checkClasses(code);
    checkMethods(code);
    D.end();
  }

  private static String withoutComments(String source) {
    // line ends stay, so that methods are as long as they are
    return source.replaceAll("(?m)^\\s*(/\\*\\*.*|\\*.*|//.*)$", "").replaceAll("//.*", "");
  }

  /** Rule 5: static fields are final. */
  private static void checkStatics(String code) {
    Matcher m = Pattern.compile("\\bstatic\\b(?! final)[^({]*(=|;)").matcher(code);
    D.due("rule 5: static fields that are not final", m.find() ? 1 : 0, 0);
    D.due("rule 5: static blocks", code.matches("(?s).*\\bstatic\\s*\\{.*") ? 1 : 0, 0);
  }

  /** Rules 2 and 11: classes inside are private and static, and not too many. */
  private static void checkClasses(String code) {
    int all = 0;
    Matcher m = Pattern.compile("(?m)^(.*)\\bclass (\\w+)").matcher(code);
    while (m.find()) {
      all++;
      String before = m.group(1).trim();
      boolean isFine = before.equals(all == 1 ? "public final" : "private static final");
      D.due("rule 2: " + before + " class " + m.group(2), isFine ? 1 : 0, 1);
    }
    D.due("rule 11: classes", Math.max(all, MOST_CLASSES), MOST_CLASSES);
  }

  /** Rule 11: methods are short, and have few parameters. */
  private static void checkMethods(String code) {
    Pattern head = Pattern.compile("^( {4}| {8})(?! )[\\w\\[\\] ]+\\((.*)\\) \\{$");
    String[] lines = code.split("\n", -1);
    int all = 0;
    for (int i = 0; i < lines.length; i++) {
      Matcher m = head.matcher(lines[i]);
      if (m.matches()) {
        all++;
        String end = m.group(1) + "}";
        int last = i;
        while (!lines[last].equals(end)) {
          last++;
        }
        int parameters = m.group(2).isEmpty() ? 0 : m.group(2).split(",").length;
        D.due("rule 11: long " + lines[i], last - i + 1 > LONGEST_METHOD ? 1 : 0, 0);
        D.due("rule 11: parameters of " + lines[i], parameters > MOST_PARAMETERS ? 1 : 0, 0);
      }
    }
    D.due("methods were found", all > 60 ? 1 : 0, 1);
  }
}
