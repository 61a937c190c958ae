import java.util.ArrayList;
import java.util.Comparator;
import java.util.List;
import java.util.TreeSet;

/**
 * What one field is, found from the document's words by slow and plain ways, none of which are the
 * program's: dots are counted, lines are followed point by point, sets are tried one by one.
 */
final class Plain {
  final List<int[]> corners;
  /** Found once, when first asked for: 1 yes, 2 no. */
  private final int[] seen = new int[100];

  Plain(List<int[]> corners) {
    this.corners = corners;
  }

  static Plain of(String text) {
    List<int[]> all = new ArrayList<>();
    for (int i = 0; i + 1 < text.length(); i += 2) {
      all.add(new int[] {
        Character.digit(text.charAt(i), 16), Character.digit(text.charAt(i + 1), 16)});
    }
    return new Plain(all);
  }

  int size() {
    return corners.size();
  }

  private int[] at(int corner) {
    return corners.get(Math.floorMod(corner, size()));
  }

  /** A fraction; the divisor is above 0. */
  record Part(long top, long bottom) implements Comparable<Part> {
    static Part of(long top, long bottom) {
      return bottom < 0 ? new Part(-top, -bottom) : new Part(top, bottom);
    }

    @Override
    public int compareTo(Part other) {
      return Long.compare(top * other.bottom, other.top * bottom);
    }

    boolean isOnLine() {
      return top >= 0 && top <= bottom;
    }
  }

  private static long cross(long ax, long ay, long bx, long by) {
    return ax * by - ay * bx;
  }

  /** Where on the line from a to b (0 at a, 1 at b) it meets the line from c to d. */
  private static TreeSet<Part> meets(int[] a, int[] b, int[] c, int[] d) {
    TreeSet<Part> all = new TreeSet<>();
    long ux = b[0] - a[0];
    long uy = b[1] - a[1];
    long vx = d[0] - c[0];
    long vy = d[1] - c[1];
    long wx = c[0] - a[0];
    long wy = c[1] - a[1];
    long slope = cross(ux, uy, vx, vy);
    if (slope != 0) {
      Part onFirst = Part.of(cross(wx, wy, vx, vy), slope);
      Part onSecond = Part.of(cross(wx, wy, ux, uy), slope);
      if (onFirst.isOnLine() && onSecond.isOnLine()) {
        all.add(onFirst);
      }
    } else if (cross(wx, wy, ux, uy) == 0) {
      long length = ux * ux + uy * uy;
      Part from = Part.of(wx * ux + wy * uy, length);
      Part to = Part.of((d[0] - a[0]) * ux + (d[1] - a[1]) * uy, length);
      Part low = from.compareTo(to) < 0 ? from : to;
      Part high = from.compareTo(to) < 0 ? to : from;
      Part begin = low.top() < 0 ? new Part(0, 1) : low;
      Part end = high.top() > high.bottom() ? new Part(1, 1) : high;
      if (begin.compareTo(end) <= 0) {
        all.add(begin);
        all.add(end);
      }
    }
    return all;
  }

  boolean sound() {
    if (size() < 3) {
      return false;
    }
    for (int i = 0; i < size(); i++) {
      for (int j = 0; j < size(); j++) {
        if (i != j && !isApart(i, j)) {
          return false;
        }
      }
    }
    return true;
  }

  /** Whether fence i has no point in common with fence j but where one begins and one ends. */
  private boolean isApart(int i, int j) {
    TreeSet<Part> meets = meets(at(i), at(i + 1), at(j), at(j + 1));
    if (Math.floorMod(i + 1, size()) == j) {
      meets.remove(new Part(1, 1));
    }
    if (Math.floorMod(j + 1, size()) == i) {
      meets.remove(new Part(0, 1));
    }
    return meets.isEmpty();
  }

  /** 0 on a fence, 1 within, 2 beyond, by how often a point (of x and y by q) is gone round. */
  private int where(long x, long y, long q) {
    double round = 0;
    for (int i = 0; i < size(); i++) {
      long ax = at(i)[0] * q - x;
      long ay = at(i)[1] * q - y;
      long bx = at(i + 1)[0] * q - x;
      long by = at(i + 1)[1] * q - y;
      long cross = cross(ax, ay, bx, by);
      long dot = ax * bx + ay * by;
      if (cross == 0 && dot <= 0) {
        return 0;
      }
      round += Math.atan2(cross, dot);
    }
    return Math.abs(round) > Math.PI ? 1 : 2;
  }

  int where(int x, int y) {
    return where(x, y, 1);
  }

  /** Dots by where they are, all of them t times as near to one another. */
  private int dots(int place, int t) {
    int all = 0;
    for (int x = 0; x <= 15 * t; x++) {
      for (int y = 0; y <= 15 * t; y++) {
        all += where(x, y, t) == place ? 1 : 0;
      }
    }
    return all;
  }

  int onFences() {
    return dots(0, 1);
  }

  int within() {
    return dots(1, 1);
  }

  /** Twice what is enclosed, by adding what is below each fence. */
  private int signedArea() {
    int sum = 0;
    for (int i = 0; i < size(); i++) {
      sum -= (at(i + 1)[0] - at(i)[0]) * (at(i + 1)[1] + at(i)[1]);
    }
    return sum;
  }

  int area() {
    return Math.abs(signedArea());
  }

  private double turnAt(int i) {
    long ax = at(i)[0] - at(i - 1)[0];
    long ay = at(i)[1] - at(i - 1)[1];
    long bx = at(i + 1)[0] - at(i)[0];
    long by = at(i + 1)[1] - at(i)[1];
    return Math.atan2(cross(ax, ay, bx, by), ax * bx + ay * by);
  }

  /** All turns together are once round. */
  int left() {
    double all = 0;
    for (int i = 0; i < size(); i++) {
      all += turnAt(i);
    }
    return all > 0 ? 1 : 0;
  }

  int how(int i) {
    double inward = left() == 1 ? turnAt(i) : -turnAt(i);
    return Math.abs(inward) < 1e-9 ? 1 : inward > 0 ? 0 : 2;
  }

  int corners(int how) {
    int all = 0;
    for (int i = 0; i < size(); i++) {
      all += how(i) == how ? 1 : 0;
    }
    return all;
  }

  int wide(int a, int b) {
    int[] all = corners.stream().mapToInt(c -> a * c[0] + b * c[1]).sorted().toArray();
    return all[all.length - 1] - all[0];
  }

  /** The least width, a and b. */
  int[] narrow() {
    int[] best = null;
    for (int a = 0; a <= 9; a++) {
      for (int b = -9; b <= 9; b++) {
        int divisors = 0;
        for (int d = 1; d <= 9; d++) {
          divisors += a % d == 0 && b % d == 0 ? 1 : 0;
        }
        if (divisors == 1 && (best == null || wide(a, b) < best[0])) {
          best = new int[] {wide(a, b), a, b};
        }
      }
    }
    return best;
  }

  /** The dots of a grown field are a number by t squared, one by t, and 1; counted for 1 and 2. */
  long grown(int t) {
    long one = dots(0, 1) + dots(1, 1);
    long two = dots(0, 2) + dots(1, 2);
    long twiceSquare = two - 2 * one + 1;
    long twiceLine = 2 * (one - 1) - twiceSquare;
    return (twiceSquare * t * t + twiceLine * t) / 2 + 1;
  }

  boolean inOneLine() {
    for (int[] a : corners) {
      for (int[] b : corners) {
        for (int[] c : corners) {
          if (cross(b[0] - a[0], b[1] - a[1], c[0] - a[0], c[1] - a[1]) != 0) {
            return false;
          }
        }
      }
    }
    return true;
  }

  /** The corners that are in no three-cornered field (or line) of the others, by their angle. */
  Plain hull() {
    List<int[]> out = new ArrayList<>();
    for (int[] p : corners) {
      if (!isAmongOthers(p)) {
        out.add(p);
      }
    }
    double midX = out.stream().mapToInt(c -> c[0]).average().orElse(0);
    double midY = out.stream().mapToInt(c -> c[1]).average().orElse(0);
    int[] first = out.stream().min(
        Comparator.<int[]>comparingInt(c -> c[0]).thenComparingInt(c -> c[1])).orElseThrow();
    double start = Math.atan2(first[1] - midY, first[0] - midX);
    out.sort(Comparator.comparingDouble(c -> {
      double from = Math.atan2(c[1] - midY, c[0] - midX) - start;
      return from < -1e-9 ? from + 2 * Math.PI : from;
    }));
    return new Plain(out);
  }

  private boolean isAmongOthers(int[] p) {
    for (int[] a : corners) {
      for (int[] b : corners) {
        for (int[] c : corners) {
          if (a != p && b != p && c != p && isAmong(p, a, b, c)) {
            return true;
          }
        }
      }
    }
    return false;
  }

  private static boolean isAmong(int[] p, int[] a, int[] b, int[] c) {
    if (cross(b[0] - a[0], b[1] - a[1], c[0] - a[0], c[1] - a[1]) == 0) {
      long ab = cross(a[0] - p[0], a[1] - p[1], b[0] - p[0], b[1] - p[1]);
      long dot = (a[0] - p[0]) * (b[0] - p[0]) + (a[1] - p[1]) * (b[1] - p[1]);
      return ab == 0 && dot < 0;
    }
    return new Plain(List.of(a, b, c)).where(p[0], p[1]) != 2;
  }

  /** Where the line between two corners meets fences, 0 and 1 with it. */
  private TreeSet<Part> meetsFences(int a, int b) {
    TreeSet<Part> all = new TreeSet<>();
    for (int i = 0; i < size(); i++) {
      all.addAll(meets(at(a), at(b), at(i), at(i + 1)));
    }
    return all;
  }

  boolean sees(int a, int b) {
    if (seen[10 * a + b] == 0) {
      seen[10 * a + b] = findSight(a, b) ? 1 : 2;
    }
    return seen[10 * a + b] == 1;
  }

  private boolean findSight(int a, int b) {
    Part last = null;
    for (Part next : meetsFences(a, b)) {
      if (last != null) {
        // the point halfway between two meetings
        long top = last.top() * next.bottom() + next.top() * last.bottom();
        long bottom = 2 * last.bottom() * next.bottom();
        long x = at(a)[0] * bottom + (at(b)[0] - at(a)[0]) * top;
        long y = at(a)[1] * bottom + (at(b)[1] - at(a)[1]) * top;
        if (where(x, y, bottom) == 2) {
          return false;
        }
      }
      last = next;
    }
    return true;
  }

  private boolean atOneFence(int a, int b) {
    return Math.floorMod(a - b, size()) == 1 || Math.floorMod(b - a, size()) == 1;
  }

  boolean strip(int a, int b) {
    return a != b && !atOneFence(a, b) && sees(a, b) && meetsFences(a, b).size() == 2;
  }

  /** As told, sorted. */
  List<Integer> strips() {
    List<Integer> all = new ArrayList<>();
    for (int a = 0; a < size(); a++) {
      for (int b = a + 1; b < size(); b++) {
        if (strip(a, b)) {
          all.add(10 * a + b);
        }
      }
    }
    return all;
  }

  private boolean isCrossing(int one, int other) {
    TreeSet<Part> meets = meets(at(one / 10), at(one % 10), at(other / 10), at(other % 10));
    meets.remove(new Part(0, 1));
    meets.remove(new Part(1, 1));
    return !meets.isEmpty();
  }

  /** How many cuts, and the first of the least ones. */
  static final class Cuts {
    int ways = 0;
    int least = Integer.MAX_VALUE;
    List<Integer> first = null;
  }

  Cuts cuts() {
    Cuts cuts = new Cuts();
    tryStrips(strips(), 0, new ArrayList<>(), cuts);
    return cuts;
  }

  private void tryStrips(List<Integer> strips, int from, List<Integer> set, Cuts cuts) {
    if (set.size() == size() - 3) {
      int all = set.stream().mapToInt(this::longBy).sum();
      cuts.ways++;
      if (all < cuts.least) {
        cuts.least = all;
        cuts.first = new ArrayList<>(set);
      }
      return;
    }
    for (int i = from; i < strips.size(); i++) {
      int strip = strips.get(i);
      if (set.stream().noneMatch(s -> isCrossing(strip, s))) {
        set.add(strip);
        tryStrips(strips, i + 1, set, cuts);
        set.remove(set.size() - 1);
      }
    }
  }

  private int longBy(int strip) {
    int x = at(strip / 10)[0] - at(strip % 10)[0];
    int y = at(strip / 10)[1] - at(strip % 10)[1];
    return x * x + y * y;
  }

  private Plain part(int a, int b) {
    List<int[]> part = new ArrayList<>();
    for (int i = a; Math.floorMod(i, size()) != b; i++) {
      part.add(at(i));
    }
    part.add(at(b));
    return new Plain(part);
  }

  int sides(int a, int b) {
    return Math.abs(part(a, b).area() - part(b, a).area());
  }

  int fair() {
    int best = -9;
    for (int strip : strips()) {
      if (best == -9 || sides(strip / 10, strip % 10) < sides(best / 10, best % 10)) {
        best = strip;
      }
    }
    return best;
  }

  int guards() {
    for (int many = 1; many <= size(); many++) {
      for (int set = 1; set < 1 << size(); set++) {
        if (Integer.bitCount(set) == many && isEachSeen(set)) {
          return set;
        }
      }
    }
    return 0;
  }

  private boolean isEachSeen(int set) {
    for (int c = 0; c < size(); c++) {
      boolean seen = false;
      for (int g = 0; g < size() && !seen; g++) {
        seen = (set & 1 << g) != 0 && (c == g || sees(c, g));
      }
      if (!seen) {
        return false;
      }
    }
    return true;
  }

  int hops(int from, int to) {
    int[][] steps = new int[size()][size()];
    for (int a = 0; a < size(); a++) {
      for (int b = 0; b < size(); b++) {
        steps[a][b] = a == b ? 0 : sees(a, b) ? 1 : 99;
      }
    }
    for (int by = 0; by < size(); by++) {
      for (int a = 0; a < size(); a++) {
        for (int b = 0; b < size(); b++) {
          steps[a][b] = Math.min(steps[a][b], steps[a][by] + steps[by][b]);
        }
      }
    }
    return steps[from][to];
  }

  /** Whether a map with a d less b c as given brings this one onto the other one. */
  boolean mapped(Plain other, int sign) {
    if (size() != other.size()) {
      return false;
    }
    for (int start = 0; start < size(); start++) {
      for (int way = -1; way <= 1; way += 2) {
        int[] x = row(other, start, way, 0);
        int[] y = row(other, start, way, 1);
        if (x != null && y != null && x[0] * y[1] - x[1] * y[0] == sign) {
          return true;
        }
      }
    }
    return false;
  }

  /** The two whole numbers that give x' (which = 0) or y' (1) of all corners, by trying them. */
  private int[] row(Plain other, int start, int way, int which) {
    // a map's numbers are less than 15 * 15 * 2, as they are areas by an area of 1 or more
    for (int a = -450; a <= 450; a++) {
      int b = secondNumber(other, start, way, which, a);
      boolean fits = true;
      for (int i = 1; i < size() && fits; i++) {
        fits = a * (at(i)[0] - at(0)[0]) + b * (at(i)[1] - at(0)[1])
            == other.at(start + way * i)[which] - other.at(start)[which];
      }
      if (fits) {
        return new int[] {a, b};
      }
    }
    return null;
  }

  private int secondNumber(Plain other, int start, int way, int which, int a) {
    for (int i = 1; i < size(); i++) {
      int y = at(i)[1] - at(0)[1];
      if (y != 0) {
        return (other.at(start + way * i)[which] - other.at(start)[which]
            - a * (at(i)[0] - at(0)[0])) / y;
      }
    }
    return 0;
  }

  int common(Plain other) {
    int all = 0;
    for (int x = 0; x < 16; x++) {
      for (int y = 0; y < 16; y++) {
        all += where(x, y) != 2 && other.where(x, y) != 2 ? 1 : 0;
      }
    }
    return all;
  }
}
