import java.util.Arrays;
import java.util.HashMap;
import java.util.Map;

/** The whole face once more, with fields as texts and all that they are found by Plain. */
final class Model {
  private static final int UNKNOWN = -1;
  private static final int OUTSIDE = -2;
  private static final int STATE = -3;
  private static final int FULL = -4;
  private static final int NONE = -9;

  private final StringBuilder text = new StringBuilder();
  private String[] fields = {"", "", "", ""};
  private final String[][] slots = new String[2][];
  private final Map<String, Plain> known = new HashMap<>();

  private Plain plain(int field) {
    return known.computeIfAbsent(fields[field], Plain::of);
  }

  private boolean no(int field) {
    return field < 0 || field > 3;
  }

  private boolean no(int field, int corner) {
    return no(field) || corner < 0 || corner >= plain(field).size();
  }

  private boolean noDot(int x, int y) {
    return x < 0 || x > 15 || y < 0 || y > 15;
  }

  private static String told(int x, int y) {
    return "" + Character.forDigit(x, 16) + Character.forDigit(y, 16);
  }

  private int find(int field, int x, int y) {
    for (int i = 0; i < plain(field).size(); i++) {
      if (fields[field].substring(2 * i, 2 * i + 2).equals(told(x, y))) {
        return i;
      }
    }
    return NONE;
  }

  public int write(int n, long v) {
    if (n < 1 || n > 8) {
      return OUTSIDE;
    }
    if (text.length() + n > 24) {
      return FULL;
    }
    byte[] all = java.nio.ByteBuffer.allocate(8).putLong(v).array();
    for (int i = 8 - n; i < 8; i++) {
      text.append((char) (all[i] & 255));
    }
    return text.length();
  }

  public int wipe() {
    int was = text.length();
    text.setLength(0);
    return was;
  }

  /** Whether a text can still become a field, by what comes behind it. */
  private static boolean canBecome(String text) {
    if (text.length() > 20 || !text.matches("[0-9a-f]*")) {
      return false;
    }
    String[] pairs = text.substring(0, text.length() / 2 * 2).split("(?<=\\G..)");
    return Arrays.stream(pairs).distinct().count() == pairs.length;
  }

  public int fault() {
    for (int i = 0; i < text.length(); i++) {
      if (!canBecome(text.substring(0, i + 1))) {
        return i;
      }
    }
    return text.length() < 6 || text.length() % 2 != 0 ? text.length() : NONE;
  }

  public int field(int field) {
    if (no(field)) {
      return UNKNOWN;
    }
    if (fault() != NONE) {
      return STATE;
    }
    fields[field] = text.toString();
    return plain(field).size();
  }

  public int corner(int field, int corner, int what) {
    if (no(field, corner)) {
      return UNKNOWN;
    }
    return what < 0 || what > 1 ? OUTSIDE : plain(field).corners.get(corner)[what];
  }

  public int move(int field, int corner, int x, int y) {
    if (no(field, corner)) {
      return UNKNOWN;
    }
    if (noDot(x, y)) {
      return OUTSIDE;
    }
    int there = find(field, x, y);
    if (there != NONE) {
      return there == corner ? 0 : STATE;
    }
    fields[field] = new StringBuilder(fields[field])
        .replace(2 * corner, 2 * corner + 2, told(x, y)).toString();
    return 1;
  }

  public int put(int field, int at, int x, int y) {
    if (no(field) || at < 0 || at > plain(field).size()) {
      return UNKNOWN;
    }
    if (noDot(x, y)) {
      return OUTSIDE;
    }
    if (find(field, x, y) != NONE) {
      return STATE;
    }
    if (plain(field).size() == 10) {
      return FULL;
    }
    fields[field] = new StringBuilder(fields[field]).insert(2 * at, told(x, y)).toString();
    return plain(field).size();
  }

  public int take(int field, int corner) {
    if (no(field, corner)) {
      return UNKNOWN;
    }
    if (plain(field).size() <= 3) {
      return STATE;
    }
    fields[field] =
        new StringBuilder(fields[field]).delete(2 * corner, 2 * corner + 2).toString();
    return plain(field).size();
  }

  public int turn(int field, int t) {
    if (no(field)) {
      return UNKNOWN;
    }
    if (t < 0 || t > 7) {
      return OUTSIDE;
    }
    // the midst is (7.5, 7.5): by twice the distances from it
    int[] cos = {1, 0, -1, 0};
    int[] sin = {0, 1, 0, -1};
    StringBuilder turned = new StringBuilder();
    for (int[] c : plain(field).corners) {
      int x = (2 * c[0] - 15) * (t >= 4 ? -1 : 1);
      int y = 2 * c[1] - 15;
      turned.append(told((x * cos[t % 4] - y * sin[t % 4] + 15) / 2,
          (x * sin[t % 4] + y * cos[t % 4] + 15) / 2));
    }
    fields[field] = turned.toString();
    return plain(field).size();
  }

  public int shift(int field, int x, int y) {
    if (no(field)) {
      return UNKNOWN;
    }
    if (x < -15 || x > 15 || y < -15 || y > 15) {
      return OUTSIDE;
    }
    StringBuilder shifted = new StringBuilder();
    for (int[] c : plain(field).corners) {
      if (noDot(c[0] + x, c[1] + y)) {
        return STATE;
      }
      shifted.append(told(c[0] + x, c[1] + y));
    }
    fields[field] = shifted.toString();
    return plain(field).size();
  }

  public int sound(int field) {
    return no(field) ? UNKNOWN : plain(field).sound() ? 1 : 0;
  }

  public int about(int field, int what) {
    if (no(field)) {
      return UNKNOWN;
    }
    if (what < 0 || what > 8) {
      return OUTSIDE;
    }
    Plain p = plain(field);
    if (!p.sound()) {
      return STATE;
    }
    return switch (what) {
      case 0 -> p.area();
      case 1 -> p.left();
      case 2 -> p.onFences();
      case 3 -> p.within();
      case 4 -> p.corners(2);
      case 5 -> p.corners(1);
      case 6 -> p.strips().size();
      case 7 -> p.cuts().ways;
      default -> p.cuts().least;
    };
  }

  public int where(int field, int x, int y) {
    if (no(field)) {
      return UNKNOWN;
    }
    if (noDot(x, y)) {
      return OUTSIDE;
    }
    return plain(field).sound() ? plain(field).where(x, y) : STATE;
  }

  public int how(int field, int corner) {
    if (no(field, corner)) {
      return UNKNOWN;
    }
    return plain(field).sound() ? plain(field).how(corner) : STATE;
  }

  public int wide(int field, int a, int b) {
    if (no(field)) {
      return UNKNOWN;
    }
    if (a < -9 || a > 9 || b < -9 || b > 9 || a == 0 && b == 0) {
      return OUTSIDE;
    }
    return plain(field).size() == 0 ? STATE : plain(field).wide(a, b);
  }

  public int narrow(int field, int what) {
    if (no(field)) {
      return UNKNOWN;
    }
    if (what < 0 || what > 2) {
      return OUTSIDE;
    }
    if (plain(field).size() == 0) {
      return STATE;
    }
    return plain(field).narrow()[what] + (what == 2 ? 100 : 0);
  }

  public long grown(int field, int t) {
    if (no(field)) {
      return UNKNOWN;
    }
    if (t < 1 || t > 99) {
      return OUTSIDE;
    }
    return plain(field).sound() ? plain(field).grown(t) : STATE;
  }

  public int hull(int field, int other) {
    if (no(field) || no(other)) {
      return UNKNOWN;
    }
    if (plain(other).inOneLine()) {
      return STATE;
    }
    StringBuilder hull = new StringBuilder();
    for (int[] c : plain(other).hull().corners) {
      hull.append(told(c[0], c[1]));
    }
    fields[field] = hull.toString();
    return plain(field).size();
  }

  public int sees(int field, int corner, int other) {
    if (no(field, corner) || no(field, other) || corner == other) {
      return UNKNOWN;
    }
    return !plain(field).sound() ? STATE : plain(field).sees(corner, other) ? 1 : 0;
  }

  public int strip(int field, int corner, int other) {
    if (no(field, corner) || no(field, other) || corner == other) {
      return UNKNOWN;
    }
    return !plain(field).sound() ? STATE : plain(field).strip(corner, other) ? 1 : 0;
  }

  public int least(int field, int i) {
    if (no(field)) {
      return UNKNOWN;
    }
    if (!plain(field).sound()) {
      return STATE;
    }
    return i < 0 || i >= plain(field).size() - 3 ? NONE : plain(field).cuts().first.get(i);
  }

  public int fair(int field) {
    return no(field) ? UNKNOWN : plain(field).sound() ? plain(field).fair() : STATE;
  }

  public int sides(int field, int corner, int other) {
    if (no(field, corner) || no(field, other)) {
      return UNKNOWN;
    }
    if (!plain(field).sound() || !plain(field).strip(corner, other)) {
      return STATE;
    }
    return plain(field).sides(corner, other);
  }

  public int guards(int field) {
    return no(field) ? UNKNOWN : plain(field).sound() ? plain(field).guards() : STATE;
  }

  public int hops(int field, int corner, int other) {
    if (no(field, corner) || no(field, other)) {
      return UNKNOWN;
    }
    return plain(field).sound() ? plain(field).hops(corner, other) : STATE;
  }

  private int refusal(int field, int other) {
    if (no(field) || no(other)) {
      return UNKNOWN;
    }
    return plain(field).sound() && plain(other).sound() ? 0 : STATE;
  }

  public int alike(int field, int other) {
    if (refusal(field, other) != 0) {
      return refusal(field, other);
    }
    return plain(field).mapped(plain(other), 1) || plain(field).mapped(plain(other), -1) ? 1 : 0;
  }

  public int mirrored(int field, int other) {
    if (refusal(field, other) != 0) {
      return refusal(field, other);
    }
    return plain(field).mapped(plain(other), -1) ? 1 : 0;
  }

  public int common(int field, int other) {
    return refusal(field, other) != 0 ? refusal(field, other)
        : plain(field).common(plain(other));
  }

  private int all() {
    return String.join("", fields).length() / 2;
  }

  public int keep(int slot) {
    if (slot < 0 || slot > 1) {
      return UNKNOWN;
    }
    slots[slot] = fields.clone();
    return all();
  }

  public int again(int slot) {
    if (slot < 0 || slot > 1) {
      return UNKNOWN;
    }
    if (slots[slot] == null) {
      return STATE;
    }
    fields = slots[slot].clone();
    return all();
  }

  public int count(int what) {
    return switch (what) {
      case 0 -> text.length();
      case 1 -> all();
      case 2 -> sound(0) + sound(1) + sound(2) + sound(3);
      default -> OUTSIDE;
    };
  }
}
