import java.lang.reflect.InvocationTargetException;
import java.lang.reflect.Method;
import java.util.ArrayList;
import java.util.HashMap;
import java.util.List;
import java.util.Map;
import java.util.Set;

/**
 * Sentences of the document, each tested by rows of its own on a new object:
 *
 * <ul>
 *   <li>"put 0 4 1 2 = 5": a call and the answer that is due (numbers may be MIN, MAX, 0x30);
 *   <li>"is 0 004004": corners are put in the empty field 0, any number of them;
 *   <li>"text 0g": THE TEXT becomes this;
 *   <li>"told 0 004004": the corners of field 0 are these.
 * </ul>
 *
 * <p>Behind each call that is refused, or only asks, everything must be as without it.
 */
final class Sentences {
  private static final Set<String> CHANGING = Set.of("write", "wipe", "field", "move", "put",
      "take", "turn", "shift", "hull", "keep", "again");
  private static final Map<String, Method> FACE = new HashMap<>();

  static {
    for (Method m : FieldsByDots.class.getMethods()) {
      FACE.put(m.getName(), m);
    }
  }

  private record Call(String name, Object[] arguments) {
    long on(FieldsByDots x) {
      try {
        return ((Number) FACE.get(name).invoke(x, arguments)).longValue();
      } catch (IllegalAccessException | InvocationTargetException e) {
        throw new IllegalStateException(name, e);
      }
    }
  }

  private final Due due;
  private String sentence;
  private List<Call> calls;
  private FieldsByDots x;

  Sentences(Due due) {
    this.due = due;
  }

  void holds(String sentence, String... rows) {
    this.sentence = sentence;
    calls = new ArrayList<>();
    x = new FieldsByDots();
    for (String row : rows) {
      String[] words = row.split(" ");
      switch (words[0]) {
        case "is" -> putAll(words[1], words.length > 2 ? words[2] : "");
        case "text" -> writeAll(words.length > 1 ? row.substring(5) : "");
        case "told" -> due.dueTold(sentence, x, Integer.parseInt(words[1]),
            words.length > 2 ? words[2] : "");
        default -> ask(row, words);
      }
    }
  }

  private void putAll(String field, String corners) {
    for (int i = 0; i < corners.length(); i += 2) {
      run(call(new String[] {"put", field, "" + i / 2,
        "" + Character.digit(corners.charAt(i), 16),
        "" + Character.digit(corners.charAt(i + 1), 16)}, 5));
    }
  }

  private void writeAll(String text) {
    run(call(new String[] {"wipe"}, 1));
    for (char sign : text.toCharArray()) {
      run(call(new String[] {"write", "1", "" + (int) sign}, 3));
    }
  }

  private void ask(String row, String[] words) {
    if (words.length < 3 || !words[words.length - 2].equals("=")) {
      throw new IllegalArgumentException("no row: " + row);
    }
    Call call = call(words, words.length - 2);
    long got = run(call);
    long want = Long.parseLong(words[words.length - 1]);
    due.due(sentence + ": " + row, got, want);
    boolean isRefused = got < 0 && got != FieldsByDots.NONE;
    if (isRefused || !CHANGING.contains(call.name)) {
      dueUnchanged(row);
    }
  }

  private static Call call(String[] words, int end) {
    Method m = FACE.get(words[0]);
    if (m == null || m.getParameterCount() != end - 1) {
      throw new IllegalArgumentException("no call: " + String.join(" ", words));
    }
    Object[] arguments = new Object[end - 1];
    for (int i = 1; i < end; i++) {
      if (m.getParameterTypes()[i - 1] == long.class) {
        arguments[i - 1] = words[i].startsWith("0x")
            ? Long.parseUnsignedLong(words[i].substring(2), 16) : Long.parseLong(words[i]);
      } else {
        arguments[i - 1] = words[i].equals("MIN") ? Integer.MIN_VALUE
            : words[i].equals("MAX") ? Integer.MAX_VALUE : Integer.parseInt(words[i]);
      }
    }
    return new Call(words[0], arguments);
  }

  private long run(Call call) {
    calls.add(call);
    return call.on(x);
  }

  /** The last call left all as it was: a run without it goes on like the one with it. */
  private void dueUnchanged(String row) {
    FieldsByDots with = new FieldsByDots();
    FieldsByDots without = new FieldsByDots();
    for (int i = 0; i < calls.size(); i++) {
      calls.get(i).on(with);
      if (i + 1 < calls.size()) {
        calls.get(i).on(without);
      }
    }
    String got = all(with);
    String want = all(without);
    due.due(sentence + ": " + row + " changes nothing", got.equals(want) ? 1 : 0, 1);
  }

  /** All that an object holds, as far as calls can tell. The object is of no use afterwards. */
  static String all(FieldsByDots x) {
    StringBuilder all = new StringBuilder();
    all.append(x.count(0)).append(' ').append(x.fault()).append(' ');
    addFields(all, x);
    if (x.field(3) >= 0) {
      all.append(Due.told(x, 3)).append(' ');
    }
    for (int slot = 0; slot < 2; slot++) {
      all.append(x.again(slot)).append(' ');
      addFields(all, x);
    }
    return all.toString();
  }

  private static void addFields(StringBuilder all, FieldsByDots x) {
    for (int f = 0; f < 4; f++) {
      all.append(Due.told(x, f)).append(' ');
    }
  }
}
