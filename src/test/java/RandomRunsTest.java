import java.lang.reflect.Method;
import java.util.ArrayList;
import java.util.Arrays;
import java.util.Comparator;
import java.util.List;
import java.util.Random;

/**
 * Runs of calls on the program and on the model, with the same answers. The runs are the same each
 * time; another first number and another count of runs may be given: RandomRunsTest 1 100.
 */
public final class RandomRunsTest {
  private static final int CALLS = 512;
  private static final Due D = new Due("RandomRunsTest");

  private final Random random;
  private final FieldsByDots program = new FieldsByDots();
  private final Model model = new Model();
  private final List<String> told = new ArrayList<>();
  private final List<Method[]> calls = new ArrayList<>();
  /** Dots are from 0 to this: on few of them there are many flat corners and lines. */
  private final int side;

  private RandomRunsTest(int seed) throws ReflectiveOperationException {
    random = new Random(seed);
    side = 2 + random.nextInt(14);
    Method[] face = FieldsByDots.class.getDeclaredMethods();
    Arrays.sort(face, Comparator.comparing(Method::getName));
    for (Method m : face) {
      if (java.lang.reflect.Modifier.isPublic(m.getModifiers())) {
        calls.add(new Method[] {
          m, Model.class.getDeclaredMethod(m.getName(), m.getParameterTypes())});
      }
    }
  }

  public static void main(String[] args) throws ReflectiveOperationException {
    int from = args.length > 0 ? Integer.parseInt(args[0]) : 1;
    int runs = args.length > 1 ? Integer.parseInt(args[1]) : 400;
    for (int seed = from; seed < from + runs; seed++) {
      new RandomRunsTest(seed).run();
    }
    D.end();
  }

  private void run() throws ReflectiveOperationException {
    while (told.size() < CALLS) {
      int kind = random.nextInt(20);
      if (kind == 0) {
        tellField(random.nextInt(4));
      } else if (kind == 1) {
        tellLike(random.nextInt(4), random.nextInt(4));
      } else {
        Method[] m = calls.get(random.nextInt(calls.size()));
        if (!isRare(m[0].getName()) || random.nextInt(4) == 0) {
          call(m, arguments(m[0]));
        }
      }
    }
  }

  /** Calls after which there are hardly any sound fields, or the same ones as before. */
  private static boolean isRare(String name) {
    return List.of("move", "put", "take", "again", "write", "wipe").contains(name);
  }

  private boolean call(Method[] m, Object... arguments) throws ReflectiveOperationException {
    String call = m[0].getName() + Arrays.toString(arguments);
    told.add(call);
    long got = ((Number) m[0].invoke(program, arguments)).longValue();
    long want = ((Number) m[1].invoke(model, arguments)).longValue();
    D.due(call, got, want);
    if (got != want) {
      System.out.println("  behind " + told);
      System.exit(1);
    }
    return got >= 0;
  }

  private boolean call(String name, Object... arguments) throws ReflectiveOperationException {
    for (Method[] m : calls) {
      if (m[0].getName().equals(name)) {
        return call(m, arguments);
      }
    }
    throw new IllegalStateException(name);
  }

  private Object[] arguments(Method m) {
    Class<?>[] types = m.getParameterTypes();
    Object[] all = new Object[types.length];
    for (int i = 0; i < types.length; i++) {
      all[i] = types[i] == long.class ? (Object) someBytes() : (Object) argument(m.getName(), i);
    }
    return all;
  }

  private int argument(String name, int i) {
    if (random.nextInt(60) == 0) {
      int[] odd = {-1, -2, 2, 4, 8, 10, 11, 15, 16, 99, 100, -9, -10, -15, -16,
        Integer.MIN_VALUE, Integer.MAX_VALUE};
      return odd[random.nextInt(odd.length)];
    }
    if (name.equals("write")) {
      return 1 + random.nextInt(8);
    }
    if (name.equals("keep") || name.equals("again")) {
      return random.nextInt(2);
    }
    if (i == 0 || List.of("hull", "alike", "mirrored", "common").contains(name)) {
      return random.nextInt(4);
    }
    return laterArgument(name, i);
  }

  private int laterArgument(String name, int i) {
    switch (name) {
      case "corner":
        return i == 1 ? random.nextInt(10) : random.nextInt(2);
      case "move":
      case "put":
        return i == 1 ? random.nextInt(9) : random.nextInt(side + 1);
      case "turn":
        return random.nextInt(8);
      case "shift":
        return random.nextInt(9) - 4;
      case "about":
        return random.nextInt(9);
      case "where":
        return random.nextInt(Math.min(16, side + 3));
      case "wide":
        return random.nextInt(19) - 9;
      case "narrow":
        return random.nextInt(3);
      case "grown":
        return 1 + random.nextInt(99);
      default:
        return random.nextInt(9);
    }
  }

  private long someBytes() {
    if (random.nextInt(10) == 0) {
      return random.nextLong();
    }
    long all = 0;
    for (int i = 0; i < 8; i++) {
      all = all << 8 | Character.forDigit(random.nextInt(16), 16);
    }
    return all;
  }

  private void tell(int field, String text) throws ReflectiveOperationException {
    call("wipe");
    for (int i = 0; i < text.length(); i += 2) {
      call("write", 2, (long) text.charAt(i) << 8 | text.charAt(i + 1));
    }
    call("fault");
    call("field", field);
  }

  /** A sound one: from a three-cornered one on, a corner is put in wherever it stays sound. */
  private void tellField(int field) throws ReflectiveOperationException {
    int size = 3 + random.nextInt(8);
    StringBuilder best = new StringBuilder();
    for (int tries = 0; tries < 200 && best.length() < 2 * size; tries++) {
      String dot = "" + Character.forDigit(random.nextInt(side + 1), 16)
          + Character.forDigit(random.nextInt(side + 1), 16);
      int at = 2 * random.nextInt(best.length() / 2 + 1);
      StringBuilder next = new StringBuilder(best).insert(at, dot);
      boolean isNew = best.toString().replaceAll("(..)", "$1 ").indexOf(dot + " ") < 0;
      if (isNew && (next.length() < 6 || Plain.of(next.toString()).sound())) {
        best = next;
      }
    }
    tell(field, best.toString());
  }

  /** The field is as another one by some map of whole numbers, if there are dots enough. */
  private void tellLike(int field, int other) throws ReflectiveOperationException {
    String text = Due.told(program, other);
    for (int tries = 0; tries < 100 && !text.isEmpty(); tries++) {
      int[] map = new int[6];
      for (int i = 0; i < 6; i++) {
        map[i] = random.nextInt(i < 4 ? 7 : 31) - (i < 4 ? 3 : 15);
      }
      String mapped = mapped(text, map, random.nextInt(text.length() / 2), random.nextBoolean());
      int area = Math.abs(map[0] * map[3] - map[1] * map[2]);
      if (mapped != null && (area == 1 || area == 2 && tries % 10 == 0)) {
        tell(field, mapped);
        return;
      }
    }
  }

  private static String mapped(String text, int[] map, int start, boolean back) {
    StringBuilder all = new StringBuilder();
    Plain from = Plain.of(text);
    for (int i = 0; i < from.size(); i++) {
      int[] c = from.corners.get(Math.floorMod(back ? start - i : start + i, from.size()));
      int x = map[0] * c[0] + map[1] * c[1] + map[4];
      int y = map[2] * c[0] + map[3] * c[1] + map[5];
      if (x < 0 || x > 15 || y < 0 || y > 15) {
        return null;
      }
      all.append(Character.forDigit(x, 16)).append(Character.forDigit(y, 16));
    }
    return all.toString();
  }
}
