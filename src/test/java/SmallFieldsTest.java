/** All fields on three by three dots, as the program and as Plain find them. */
public final class SmallFieldsTest {
  private static final int SIDE = 3;
  private static final Due D = new Due("SmallFieldsTest");
  private static final FieldsByDots PROGRAM = new FieldsByDots();
  private static int sound = 0;

  public static void main(String[] args) {
    for (int first = 0; first < SIDE * SIDE; first++) {
      goOn(told(first), 1 << first, first);
    }
    D.due("sound fields on three by three dots", sound, 1950);
    D.end();
  }

  private static String told(int dot) {
    return "" + dot % SIDE + dot / SIDE;
  }

  /** The first corner is the least dot: from another one on, it is the same field. */
  private static void goOn(String text, int used, int first) {
    if (text.length() >= 6) {
      compare(text);
    }
    for (int dot = first + 1; dot < SIDE * SIDE; dot++) {
      if ((used & 1 << dot) == 0) {
        goOn(text + told(dot), used | 1 << dot, first);
      }
    }
  }

  private static void due(String text, String call, long got, long want) {
    D.due(text + ": " + call, got, want);
  }

  private static void compare(String text) {
    Due.text(PROGRAM, text);
    PROGRAM.field(0);
    Plain plain = Plain.of(text);
    due(text, "sound", PROGRAM.sound(0), plain.sound() ? 1 : 0);
    if (plain.sound()) {
      sound++;
      compareAbout(text, plain);
      compareCuts(text, plain);
      for (int a = 0; a < plain.size(); a++) {
        due(text, "how", PROGRAM.how(0, a), plain.how(a));
        for (int b = 0; b < plain.size(); b++) {
          if (a != b) {
            comparePair(text, plain, a, b);
          }
        }
      }
    }
  }

  private static void compareAbout(String text, Plain plain) {
    due(text, "area", PROGRAM.about(0, 0), plain.area());
    due(text, "left", PROGRAM.about(0, 1), plain.left());
    due(text, "on fences", PROGRAM.about(0, 2), plain.onFences());
    due(text, "within", PROGRAM.about(0, 3), plain.within());
    due(text, "stick in", PROGRAM.about(0, 4), plain.corners(2));
    due(text, "flat", PROGRAM.about(0, 5), plain.corners(1));
    due(text, "guards", PROGRAM.guards(0), plain.guards());
  }

  private static void compareCuts(String text, Plain plain) {
    Plain.Cuts cuts = plain.cuts();
    due(text, "strips", PROGRAM.about(0, 6), plain.strips().size());
    due(text, "cuts", PROGRAM.about(0, 7), cuts.ways);
    due(text, "least", PROGRAM.about(0, 8), cuts.least);
    for (int i = 0; i < cuts.first.size(); i++) {
      due(text, "least(0, i)", PROGRAM.least(0, i), cuts.first.get(i));
    }
    due(text, "fair", PROGRAM.fair(0), plain.fair());
  }

  private static void comparePair(String text, Plain plain, int a, int b) {
    due(text, "sees", PROGRAM.sees(0, a, b), plain.sees(a, b) ? 1 : 0);
    due(text, "strip", PROGRAM.strip(0, a, b), plain.strip(a, b) ? 1 : 0);
    due(text, "hops", PROGRAM.hops(0, a, b), plain.hops(a, b));
    due(text, "sides", PROGRAM.sides(0, a, b), plain.strip(a, b) ? plain.sides(a, b) : -3);
  }
}
