/** Promises 20 to 26: who sees whom, STRIPS and CUTS. The numbers due were found by hand. */
public final class SightsTest {
  private static final int MIN = Integer.MIN_VALUE;
  private static final int MAX = Integer.MAX_VALUE;
  private static final Due D = new Due("SightsTest");

  private static final String SQUARE = "00404404";
  private static final String ELL = "004042222404";
  private static final String YOU = "0060664642222606";
  private static final String BOW = "00444004";

  /** Rows of corners: 1 a strip, s seen but no strip, . not seen. */
  private static final String[] SQUARE_SIGHTS = {" s1s", "s s1", "1s s", "s1s "};
  private static final String[] ELL_SIGHTS = {
    " s111s", "s s1.s", "1s s..", "11s s1", "1..s s", "ss.1s ",
  };
  private static final String[] YOU_SIGHTS = {
    " s..111s", "s s111..", ".s s1...", ".1s s...", "111s s..", "11..s s1", "1....s s", "s....1s ",
  };

  public static void main(String[] args) {
    dueSights(SQUARE, SQUARE_SIGHTS);
    dueSights(ELL, ELL_SIGHTS);
    dueSights(YOU, YOU_SIGHTS);
    alongFences();
    promise20And21Refused();
    promise22Least();
    promise22Refused();
    promise23Fair();
    promise24Sides();
    promise25Guards();
    promise26Hops();
    D.end();
  }

  /** Promises 20 and 21, for a field turned and mirrored. */
  private static void dueSights(String text, String... rows) {
    for (int t = 0; t < 8; t++) {
      FieldsByDots x = Due.with("", text);
      x.turn(1, t);
      for (int a = 0; a < rows.length; a++) {
        for (int b = 0; b < rows.length; b++) {
          char sign = rows[a].charAt(b);
          String pair = "(1, " + a + ", " + b + ") of " + text + " turned by " + t;
          D.due("sees" + pair, x.sees(1, a, b), a == b ? -1 : sign == '.' ? 0 : 1);
          D.due("strip" + pair, x.strip(1, a, b), a == b ? -1 : sign == '1' ? 1 : 0);
        }
      }
    }
  }

  private static void alongFences() {
    // the L with a flat corner at (0, 2): from (4, 2) along a fence, then within
    dueSights("00404222240402",
        " s111ss", "s s1.s1", "1s s..s", "11s s11", "1..s s1", "ss.1s s", "s1s11s ");
    // a three-cornered one with a flat corner: along two fences in one line
    dueSights("00204004", " sss", "s s1", "ss s", "s1s ");
    // from (0, 0) to (6, 6) by two corners that stick in, one from each side
    dueSights("0030226166364405",
        " s1.s.ss", "s s....1", "1s ss.11", "..s s111", "s.ss s1.", "...1s s.", "s.111s s",
        "s111..s ");
  }

  private static void promise20And21Refused() {
    FieldsByDots x = Due.with(SQUARE, BOW);
    int[][] unknown = {
      {0, 4, 0}, {0, 0, 4}, {0, -1, 0}, {0, 0, -1}, {0, MIN, MAX}, {4, 0, 1}, {-1, 0, 1},
      {0, 2, 2}, {1, 2, 2}, {1, 0, 4}, {2, 0, 1}, {MAX, 0, 1},
    };
    for (int[] c : unknown) {
      D.due("sees: UNKNOWN", x.sees(c[0], c[1], c[2]), -1);
      D.due("strip: UNKNOWN", x.strip(c[0], c[1], c[2]), -1);
    }
    D.due("sees(1, 0, 1) of a bow", x.sees(1, 0, 1), -3);
    D.due("strip(1, 0, 2) of a bow", x.strip(1, 0, 2), -3);
  }

  private static void dueLeast(String text, int... want) {
    FieldsByDots x = Due.with("", "", text);
    for (int i = 0; i < want.length; i++) {
      D.due("least(2, " + i + ") of " + text, x.least(2, i), want[i]);
    }
    D.due("least(2, n) of " + text, x.least(2, want.length), -9);
    D.due("least(2, -1) of " + text, x.least(2, -1), -9);
    D.due("least(2, MIN) of " + text, x.least(2, MIN), -9);
    D.due("least(2, MAX) of " + text, x.least(2, MAX), -9);
  }

  private static void promise22Least() {
    dueLeast("001001");
    // of like ones the first
    dueLeast(SQUARE, 2);
    // the shorter diagonal
    dueLeast("00507323", 13);
    dueLeast(ELL, 3, 13, 35);
    dueLeast(YOU, 4, 5, 14, 24, 57);
    dueLeast("0040634604", 13, 14);
    dueLeast("205073562603", 2, 4, 24);
    // like ones: 4, 14, 24; 14, 15, 24
    dueLeast("300325364563", 2, 24, 25);
    dueLeast("533303011030", 13, 15, 35);
  }

  private static void promise22Refused() {
    FieldsByDots x = Due.with(SQUARE, BOW);
    D.due("least(4, 0)", x.least(4, 0), -1);
    D.due("least(-1, 0)", x.least(-1, 0), -1);
    D.due("least(1, 0) of a bow", x.least(1, 0), -3);
    D.due("least(1, 9) of a bow", x.least(1, 9), -3);
    D.due("least(2, 0) of none", x.least(2, 0), -3);
  }

  private static void promise23Fair() {
    FieldsByDots x = Due.with(YOU, BOW, "001001");
    D.due("fair(0) of a U", x.fair(0), 4);
    D.due("fair(1) of a bow", x.fair(1), -3);
    D.due("fair(2) of a three-cornered one", x.fair(2), -9);
    D.due("fair(3) of none", x.fair(3), -3);
    D.due("fair(4)", x.fair(4), -1);
    D.due("fair(-1)", x.fair(-1), -1);
    x = Due.with(SQUARE, ELL, "0040634604", "00205004");
    D.due("fair(0) of a square", x.fair(0), 2);
    D.due("fair(1) of an L", x.fair(1), 3);
    D.due("fair(2), of 3, 14 and 24 alike", x.fair(2), 3);
    D.due("fair(3)", x.fair(3), 13);
  }

  private static void promise24Sides() {
    FieldsByDots x = Due.with(YOU, BOW, "0626224246666000");
    D.due("sides(0, 0, 4)", x.sides(0, 0, 4), 8);
    D.due("sides(0, 4, 0)", x.sides(0, 4, 0), 8);
    D.due("sides(0, 1, 5)", x.sides(0, 1, 5), 8);
    D.due("sides(0, 0, 5)", x.sides(0, 0, 5), 16);
    D.due("sides(0, 4, 1)", x.sides(0, 4, 1), 16);
    D.due("sides(0, 0, 6)", x.sides(0, 0, 6), 32);
    D.due("sides(0, 5, 7)", x.sides(0, 5, 7), 40);
    D.due("sides(2, 7, 3), to the right", x.sides(2, 7, 3), 8);
    D.due("sides(2, 2, 0), to the right", x.sides(2, 2, 0), 40);
    D.due("sides at one fence", x.sides(0, 0, 1), -3);
    D.due("sides at the last fence", x.sides(0, 7, 0), -3);
    D.due("sides, not seen", x.sides(0, 2, 7), -3);
    D.due("sides of one and the same", x.sides(0, 3, 3), -3);
    D.due("sides(1, 0, 2) of a bow", x.sides(1, 0, 2), -3);
    D.due("sides(0, 8, 0)", x.sides(0, 8, 0), -1);
    D.due("sides(0, 0, 8)", x.sides(0, 0, 8), -1);
    D.due("sides(0, -1, 0)", x.sides(0, -1, 0), -1);
    D.due("sides(0, 0, -1)", x.sides(0, 0, -1), -1);
    D.due("sides(4, 0, 2)", x.sides(4, 0, 2), -1);
    D.due("sides(-1, 0, 2)", x.sides(-1, 0, 2), -1);
    D.due("sides(1, 0, 4) of a bow", x.sides(1, 0, 4), -1);
    D.due("sides(3, 0, 1) of none", x.sides(3, 0, 1), -1);
    D.due("sides of a square", Due.with(SQUARE).sides(0, 0, 2), 0);
    D.due("seen, but no strip", Due.with(ELL).sides(0, 1, 5), -3);
  }

  private static void promise25Guards() {
    FieldsByDots x = Due.with(YOU, BOW, SQUARE);
    D.due("guards(0) of a U", x.guards(0), 3);
    D.due("guards(1) of a bow", x.guards(1), -3);
    D.due("guards(2) of a square", x.guards(2), 1);
    D.due("guards(3) of none", x.guards(3), -3);
    D.due("guards(4)", x.guards(4), -1);
    D.due("guards(-1)", x.guards(-1), -1);
    // the L: 0 sees all; told from another corner on, it is another one
    x = Due.with(ELL, "404222240400", "422224040040", "222404004042");
    D.due("guards(0) of an L", x.guards(0), 1);
    D.due("guards(1) of an L", x.guards(1), 4);
    D.due("guards(2) of an L", x.guards(2), 2);
    D.due("guards(3) of an L", x.guards(3), 1);
  }

  private static void promise26Hops() {
    FieldsByDots x = Due.with(YOU, BOW);
    String[] due = {
      "01221111", "10111122", "21011233", "21101233", "11110122", "11221011", "12332101", "12332110",
    };
    for (int a = 0; a < 8; a++) {
      for (int b = 0; b < 8; b++) {
        D.due("hops(0, " + a + ", " + b + ") of a U", x.hops(0, a, b), due[a].charAt(b) - '0');
      }
    }
    D.due("hops(1, 0, 1) of a bow", x.hops(1, 0, 1), -3);
    D.due("hops(1, 0, 0) of a bow", x.hops(1, 0, 0), -3);
    D.due("hops(1, 0, 4) of a bow", x.hops(1, 0, 4), -1);
    D.due("hops(0, 8, 0)", x.hops(0, 8, 0), -1);
    D.due("hops(0, 0, 8)", x.hops(0, 0, 8), -1);
    D.due("hops(0, -1, 0)", x.hops(0, -1, 0), -1);
    D.due("hops(0, 0, -1)", x.hops(0, 0, -1), -1);
    D.due("hops(0, MIN, MAX)", x.hops(0, MIN, MAX), -1);
    D.due("hops(4, 0, 1)", x.hops(4, 0, 1), -1);
    D.due("hops(-1, 0, 1)", x.hops(-1, 0, 1), -1);
    D.due("hops(2, 0, 0) of none", x.hops(2, 0, 0), -1);
  }
}
