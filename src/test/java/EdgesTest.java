import java.lang.reflect.Method;
import java.lang.reflect.Modifier;
import java.util.ArrayList;
import java.util.Arrays;
import java.util.HashMap;
import java.util.List;
import java.util.Map;

/**
 * Each call with each of its numbers at each edge, in all ways together, in some states: the
 * answers are the model's, so of several refusals the first; behind each call the program holds
 * what the model holds, and behind one that is refused, what it held before.
 */
public final class EdgesTest {
  private static final int MIN = Integer.MIN_VALUE;
  private static final int MAX = Integer.MAX_VALUE;
  private static final int[] FIELDS = {MIN, -1, 0, 1, 2, 3, 4, MAX};
  private static final int[] CORNERS = {MIN, -1, 0, 1, 2, 3, 9, 10, 11, MAX};
  private static final int[] DOTS = {MIN, -1, 0, 15, 16, MAX};
  private static final int[] WHATS = {MIN, -1, 0, 1, 2, 3, 8, 9, MAX};
  private static final int[] TURNS = {MIN, -1, 0, 3, 4, 7, 8, MAX};
  private static final int[] SHIFTS = {MIN, -16, -15, -1, 0, 1, 15, 16, MAX};
  private static final int[] SLANTS = {MIN, -10, -9, 0, 9, 10, MAX};
  private static final int[] TIMES = {MIN, -1, 0, 1, 99, 100, MAX};
  private static final int[] SLOTS = {MIN, -1, 0, 1, 2, MAX};
  private static final int[] BYTES = {MIN, -1, 0, 1, 3, 4, 7, 8, 9, MAX};
  private static final long[] VALUES = {
    0, -1, Long.MIN_VALUE, Long.MAX_VALUE, 0x3031323334353637L, 0x6767676767673939L,
  };
  private static final String TEN = "00f0ff0f04343cccc303";
  private static final Map<String, Method> PROGRAM = methods(FieldsByDots.class);
  private static final Map<String, Method> MODEL = methods(Model.class);
  private static final Due D = new Due("EdgesTest");

  /** Four fields, THE TEXT, the slot that keeps (or -1). */
  private record State(String text, int slot, String... fields) {}

  private static final State[] STATES = {
    new State("", -1, "", "", "", ""),
    new State("00f00f", 0, "", "00f00f", TEN, "00fff00f"),
    new State(TEN, 1, "0f", "0ff0", "00112233445566778899", "00f0ff0f"),
    new State(TEN.substring(0, 17), 0, "001001", "00204004", "f041e743cc347e140f00", ""),
    new State(TEN + "aabb", -1, "00f0ff0f", "0fff00f0", "00", TEN),
  };

  /** The program, or the model. */
  private static final class Side {
    private final Object target;

    Side(Object target, State state) throws ReflectiveOperationException {
      this.target = target;
      for (int f = 0; f < 4; f++) {
        String corners = state.fields()[f];
        for (int i = 0; i < corners.length(); i += 2) {
          ask("put", f, i / 2, Character.digit(corners.charAt(i), 16),
              Character.digit(corners.charAt(i + 1), 16));
        }
      }
      for (char sign : state.text().toCharArray()) {
        ask("write", 1, (long) sign);
      }
      if (state.slot() >= 0) {
        ask("keep", state.slot());
        ask("put", 0, 0, 7, 7);
      }
    }

    long ask(String name, Object... arguments) throws ReflectiveOperationException {
      Method m = (target instanceof Model ? MODEL : PROGRAM).get(name);
      return ((Number) m.invoke(target, arguments)).longValue();
    }

    /** All that it holds, as far as calls can tell; it is of no use afterwards. */
    String all() throws ReflectiveOperationException {
      StringBuilder all = new StringBuilder();
      all.append(ask("count", 0)).append(' ').append(ask("fault")).append(' ');
      addFields(all);
      all.append(ask("field", 3)).append(' ');
      addFields(all);
      for (int slot = 0; slot < 2; slot++) {
        all.append(ask("again", slot)).append(' ');
        addFields(all);
      }
      return all.toString();
    }

    private void addFields(StringBuilder all) throws ReflectiveOperationException {
      for (int f = 0; f < 4; f++) {
        long x = ask("corner", f, 0, 0);
        for (int i = 0; x >= 0; i++) {
          all.append(x).append(',').append(ask("corner", f, i, 1)).append(' ');
          x = ask("corner", f, i + 1, 0);
        }
        all.append("; ");
      }
    }
  }

  private static Map<String, Method> methods(Class<?> type) {
    Map<String, Method> all = new HashMap<>();
    for (Method m : type.getDeclaredMethods()) {
      if (Modifier.isPublic(m.getModifiers())) {
        all.put(m.getName(), m);
      }
    }
    return all;
  }

  public static void main(String[] args) throws ReflectiveOperationException {
    for (State state : STATES) {
      tryCalls(state, "write", BYTES);
      tryCalls(state, "wipe");
      tryCalls(state, "fault");
      tryCalls(state, "field", FIELDS);
      tryCalls(state, "corner", FIELDS, CORNERS, WHATS);
      tryCalls(state, "move", FIELDS, CORNERS, DOTS, DOTS);
      tryCalls(state, "put", FIELDS, CORNERS, DOTS, DOTS);
      tryCalls(state, "take", FIELDS, CORNERS);
      tryCalls(state, "turn", FIELDS, TURNS);
      tryCalls(state, "shift", FIELDS, SHIFTS, SHIFTS);
      tryCalls(state, "sound", FIELDS);
      tryCalls(state, "about", FIELDS, WHATS);
      tryCalls(state, "where", FIELDS, DOTS, DOTS);
      tryCalls(state, "how", FIELDS, CORNERS);
      tryCalls(state, "wide", FIELDS, SLANTS, SLANTS);
      tryCalls(state, "narrow", FIELDS, WHATS);
      tryCalls(state, "grown", FIELDS, TIMES);
      tryCalls(state, "hull", FIELDS, FIELDS);
      tryCalls(state, "sees", FIELDS, CORNERS, CORNERS);
      tryCalls(state, "strip", FIELDS, CORNERS, CORNERS);
      tryCalls(state, "least", FIELDS, CORNERS);
      tryCalls(state, "fair", FIELDS);
      tryCalls(state, "sides", FIELDS, CORNERS, CORNERS);
      tryCalls(state, "guards", FIELDS);
      tryCalls(state, "hops", FIELDS, CORNERS, CORNERS);
      tryCalls(state, "alike", FIELDS, FIELDS);
      tryCalls(state, "mirrored", FIELDS, FIELDS);
      tryCalls(state, "common", FIELDS, FIELDS);
      tryCalls(state, "keep", SLOTS);
      tryCalls(state, "again", SLOTS);
      tryCalls(state, "count", WHATS);
    }
    D.end();
  }

  private static void tryCalls(State state, String name, int[]... edges)
      throws ReflectiveOperationException {
    List<Object[]> all = new ArrayList<>();
    addAll(all, new Object[edges.length], 0, edges);
    if (name.equals("write")) {
      List<Object[]> some = all;
      all = new ArrayList<>();
      for (Object[] n : some) {
        for (long v : VALUES) {
          all.add(new Object[] {n[0], v});
        }
      }
    }
    String before = new Side(new FieldsByDots(), state).all();
    for (Object[] arguments : all) {
      tryCall(state, before, name, arguments);
    }
  }

  private static void addAll(List<Object[]> all, Object[] begun, int at, int[]... edges) {
    if (at == edges.length) {
      all.add(begun.clone());
      return;
    }
    for (int edge : edges[at]) {
      begun[at] = edge;
      addAll(all, begun, at + 1, edges);
    }
  }

  private static void tryCall(State state, String before, String name, Object[] arguments)
      throws ReflectiveOperationException {
    Side program = new Side(new FieldsByDots(), state);
    Side model = new Side(new Model(), state);
    String call = name + Arrays.toString(arguments) + " in " + state.text() + " "
        + String.join(" ", state.fields());
    long got = program.ask(name, arguments);
    D.due(call, got, model.ask(name, arguments));
    String after = program.all();
    if (!after.equals(model.all())) {
      D.fail(call + " leaves " + after);
    }
    if (got < 0 && got != FieldsByDots.NONE && !after.equals(before)) {
      D.fail(call + " is refused, and leaves " + after);
    }
  }
}
