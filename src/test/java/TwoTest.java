/** Promises 27 to 29: two FIELDS. The numbers due were found by hand. */
public final class TwoTest {
  private static final int MIN = Integer.MIN_VALUE;
  private static final int MAX = Integer.MAX_VALUE;
  private static final Due D = new Due("TwoTest");

  private static final String SQUARE = "00404404";
  private static final String BOW = "00444004";
  /** Fences of 3, 2 and 1 steps: no map but one brings it onto itself. */
  private static final String LOPSIDED = "003012";

  public static void main(String[] args) {
    sheared();
    lopsided();
    notAlike();
    roundAndRound();
    promise27And28Refused();
    promise29Common();
    promise29Refused();
    D.end();
  }

  private static void dueAlike(String one, String other, int alike, int mirrored) {
    FieldsByDots x = Due.with(one, other);
    String pair = " of " + one + " and " + other;
    D.due("alike(0, 1)" + pair, x.alike(0, 1), alike);
    D.due("alike(1, 0)" + pair, x.alike(1, 0), alike);
    D.due("mirrored(0, 1)" + pair, x.mirrored(0, 1), mirrored);
    D.due("mirrored(1, 0)" + pair, x.mirrored(1, 0), mirrored);
    D.dueTold("nothing changes", x, 0, one);
    D.dueTold("nothing changes", x, 1, other);
  }

  private static void sheared() {
    dueAlike("001001", "556586", 1, 1);
    dueAlike("001001", "001001", 1, 1);
    dueAlike(SQUARE, "00408444", 1, 1);
    dueAlike(SQUARE, "00448440", 1, 1);
    // far away and by great numbers: x' = 7 x - 5 y, y' = 3 x - 2 y, and e, g
    dueAlike("001001", "5acd08", 1, 1);
  }

  private static void lopsided() {
    dueAlike(LOPSIDED, LOPSIDED, 1, 0);
    dueAlike(LOPSIDED, "120030", 1, 0);
    dueAlike(LOPSIDED, "001230", 1, 0);
    // x' = x + y
    dueAlike(LOPSIDED, "003032", 1, 0);
    // x' = x - y, and 5
    dueAlike(LOPSIDED, "508042", 1, 0);
    // y' = -y, and 2
    dueAlike(LOPSIDED, "023210", 1, 1);
    for (int t = 0; t < 8; t++) {
      FieldsByDots x = Due.with(LOPSIDED, LOPSIDED);
      x.turn(1, t);
      D.due("alike(0, 1), turned by " + t, x.alike(0, 1), 1);
      D.due("mirrored(0, 1), turned by " + t, x.mirrored(0, 1), t < 4 ? 0 : 1);
    }
  }

  private static void notAlike() {
    // as large, other dots on fences
    dueAlike("005001", "002113", 0, 0);
    // as large, the same dots on fences, but no map of whole numbers
    dueAlike("001027", "001037", 0, 0);
    dueAlike("001027", "001047", 1, 1);
    dueAlike("001037", "001057", 1, 1);
    // not as large, though a map with 2 for 1 does it
    dueAlike("001001", "002002", 0, 0);
    dueAlike("001001", "002001", 0, 0);
    // the same dots, but another corner among them
    dueAlike(SQUARE, "0020404404", 0, 0);
    dueAlike("0020404404", "0010404404", 0, 0);
    dueAlike("0010404404", "0030404404", 1, 1);
    dueAlike(SQUARE, "004004", 0, 0);
    // all corners but one fit: the third, in line with the first two; the fourth
    dueAlike("00103004", "00104004", 0, 0);
    dueAlike("00404404", "00404403", 0, 0);
    dueAlike("00404403", "00404402", 0, 0);
  }

  /** Corners of one go onto those of the other from any of them on, either way. */
  private static void roundAndRound() {
    String ell = "006062323505";
    String back = "053532626000";
    for (int i = 0; i < ell.length(); i += 2) {
      dueAlike(ell, ell.substring(i) + ell.substring(0, i), 1, 0);
      dueAlike(ell, back.substring(i) + back.substring(0, i), 1, 0);
    }
    FieldsByDots x = Due.with(ell, back, ell);
    x.turn(2, 6);
    D.due("alike(0, 2)", x.alike(0, 2), 1);
    D.due("mirrored(0, 2)", x.mirrored(0, 2), 1);
    D.due("alike(1, 2)", x.alike(1, 2), 1);
    D.due("mirrored(1, 2)", x.mirrored(1, 2), 1);
    D.due("alike(0, 0)", x.alike(0, 0), 1);
    D.due("mirrored(0, 0)", x.mirrored(0, 0), 0);
  }

  private static void promise27And28Refused() {
    FieldsByDots x = Due.with(SQUARE, BOW);
    int[][] unknown = {{4, 0}, {0, 4}, {-1, 0}, {0, -1}, {1, 4}, {4, 1}, {MIN, MAX}};
    for (int[] c : unknown) {
      D.due("alike: UNKNOWN", x.alike(c[0], c[1]), -1);
      D.due("mirrored: UNKNOWN", x.mirrored(c[0], c[1]), -1);
    }
    int[][] state = {{0, 1}, {1, 0}, {1, 1}, {0, 2}, {2, 0}, {2, 2}};
    for (int[] c : state) {
      D.due("alike: STATE", x.alike(c[0], c[1]), -3);
      D.due("mirrored: STATE", x.mirrored(c[0], c[1]), -3);
    }
  }

  private static void dueCommon(String one, String other, int want) {
    FieldsByDots x = Due.with("", one, "", other);
    D.due("common(1, 3) of " + one + " and " + other, x.common(1, 3), want);
    D.due("common(3, 1) of " + one + " and " + other, x.common(3, 1), want);
  }

  private static void promise29Common() {
    dueCommon(SQUARE, SQUARE, 25);
    dueCommon("00f0ff0f", "00f0ff0f", 256);
    dueCommon("00f0ff0f", SQUARE, 25);
    // by a corner, by a fence, by parts without a dot, not at all
    dueCommon(SQUARE, "44848848", 1);
    dueCommon(SQUARE, "40808444", 5);
    dueCommon("001001", "110110", 2);
    dueCommon("003201", "222330", 0);
    dueCommon("002002", "221221", 0);
    dueCommon(SQUARE, "50909454", 0);
    // the dots at its opening are beyond a U
    dueCommon("0060664642222606", "00606606", 45);
    dueCommon("0060664642222606", "03636606", 24);
    FieldsByDots x = Due.with(SQUARE);
    D.due("common(0, 0)", x.common(0, 0), 25);
  }

  private static void promise29Refused() {
    FieldsByDots x = Due.with(SQUARE, BOW);
    D.due("common(4, 0)", x.common(4, 0), -1);
    D.due("common(0, 4)", x.common(0, 4), -1);
    D.due("common(-1, 1)", x.common(-1, 1), -1);
    D.due("common(1, -1)", x.common(1, -1), -1);
    D.due("common(MIN, MAX)", x.common(MIN, MAX), -1);
    D.due("common(0, 1)", x.common(0, 1), -3);
    D.due("common(1, 0)", x.common(1, 0), -3);
    D.due("common(0, 2)", x.common(0, 2), -3);
    D.due("common(2, 0)", x.common(2, 0), -3);
  }
}
