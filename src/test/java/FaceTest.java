import java.io.IOException;
import java.lang.reflect.Constructor;
import java.lang.reflect.Field;
import java.lang.reflect.Method;
import java.lang.reflect.Modifier;
import java.nio.file.Files;
import java.nio.file.Path;
import java.util.Arrays;
import java.util.Set;
import java.util.TreeSet;
import java.util.regex.Matcher;
import java.util.regex.Pattern;

/**
 * The class has the public face of the document, and nothing else that can be seen (rule 1). The
 * face stands here too, so that a document that could not be read would be found out.
 */
public final class FaceTest {
  private static final String[] FACE = {
    "int write(int,long)", "int wipe()", "int fault()", "int field(int)",
    "int corner(int,int,int)", "int move(int,int,int,int)", "int put(int,int,int,int)",
    "int take(int,int)", "int turn(int,int)", "int shift(int,int,int)", "int sound(int)",
    "int about(int,int)", "int where(int,int,int)", "int how(int,int)", "int wide(int,int,int)",
    "int narrow(int,int)", "long grown(int,int)", "int hull(int,int)", "int sees(int,int,int)",
    "int strip(int,int,int)", "int least(int,int)", "int fair(int)", "int sides(int,int,int)",
    "int guards(int)", "int hops(int,int,int)", "int alike(int,int)", "int mirrored(int,int)",
    "int common(int,int)", "int keep(int)", "int again(int)", "int count(int)",
    "int UNKNOWN", "int OUTSIDE", "int STATE", "int FULL", "int NONE", "FieldsByDots()",
  };

  private static final Path DOCUMENT = Path.of("../shared/DOC.md");
  private static final Pattern METHOD = Pattern.compile("public (\\w+) (\\w+)\\((.*)\\);");
  private static final Pattern CONSTANT = Pattern.compile("(\\b[A-Z]+) = (-\\d+)");

  public static void main(String[] args) throws IOException, ReflectiveOperationException {
    Due d = new Due("FaceTest");
    Class<?> face = FieldsByDots.class;
    d.due("public final", face.getModifiers() & (Modifier.PUBLIC | Modifier.FINAL),
        Modifier.PUBLIC | Modifier.FINAL);
    d.due("UNKNOWN", FieldsByDots.UNKNOWN, -1);
    d.due("OUTSIDE", FieldsByDots.OUTSIDE, -2);
    d.due("STATE", FieldsByDots.STATE, -3);
    d.due("FULL", FieldsByDots.FULL, -4);
    d.due("NONE", FieldsByDots.NONE, -9);
    Set<String> want = new TreeSet<>(Arrays.asList(FACE));
    Set<String> got = seen(face);
    if (!got.equals(want)) {
      d.fail("the face is " + got + ", due is " + want);
    }
    checkDocument(d, want);
    checkNames(d, face);
    d.end();
  }

  /** The document's own face is the one that stands here, and its constants have its values. */
  private static void checkDocument(Due d, Set<String> want) throws IOException,
      ReflectiveOperationException {
    String page = Files.readString(DOCUMENT);
    int begin = page.indexOf("```java");
    String block = page.substring(begin, page.indexOf("```", begin + 3));
    Set<String> told = new TreeSet<>();
    Matcher method = METHOD.matcher(block);
    while (method.find()) {
      // of each parameter its type, without its name
      String types = method.group(3).replaceAll(" \\w+(,|$) ?", "$1");
      told.add(method.group(1) + " " + method.group(2) + "(" + types + ")");
    }
    if (block.contains("public FieldsByDots();")) {
      told.add("FieldsByDots()");
    }
    Matcher constant = CONSTANT.matcher(block);
    while (constant.find()) {
      told.add("int " + constant.group(1));
      d.due("the document's " + constant.group(1),
          FieldsByDots.class.getField(constant.group(1)).getInt(null),
          Integer.parseInt(constant.group(2)));
    }
    if (!told.equals(want)) {
      d.fail("the document's face is " + told + ", here stands " + want);
    }
  }

  private static Set<String> seen(Class<?> face) {
    Set<String> all = new TreeSet<>();
    for (Method m : face.getDeclaredMethods()) {
      if (!Modifier.isPrivate(m.getModifiers())) {
        all.add(m.getReturnType() + " " + m.getName() + types(m.getParameterTypes()));
      }
    }
    for (Field f : face.getDeclaredFields()) {
      if (!Modifier.isPrivate(f.getModifiers())) {
        all.add(f.getType() + " " + f.getName());
      }
    }
    for (Constructor<?> c : face.getDeclaredConstructors()) {
      all.add(c.getName() + types(c.getParameterTypes()));
    }
    return all;
  }

  private static String types(Class<?>[] types) {
    StringBuilder all = new StringBuilder("(");
    for (Class<?> type : types) {
      all.append(all.length() > 1 ? "," : "").append(type.getName());
    }
    return all.append(")").toString();
  }

  /** No method of the program but the face's own bears a name of the face. */
  private static void checkNames(Due d, Class<?> face) {
    Set<String> names = new TreeSet<>();
    for (Method m : face.getMethods()) {
      names.add(m.getName());
    }
    for (Method m : face.getDeclaredMethods()) {
      if (Modifier.isPrivate(m.getModifiers()) && names.contains(m.getName())) {
        d.fail("a private method bears the face's name " + m.getName());
      }
    }
    for (Class<?> inside : face.getDeclaredClasses()) {
      for (Method m : inside.getDeclaredMethods()) {
        if (names.contains(m.getName())) {
          d.fail("a method of " + inside.getName() + " bears the face's name " + m.getName());
        }
      }
    }
  }
}
