/** Promises 12 to 19: what FIELDS are. The numbers due were found by hand. */
public final class ShapesTest {
  private static final int MIN = Integer.MIN_VALUE;
  private static final int MAX = Integer.MAX_VALUE;
  private static final Due D = new Due("ShapesTest");

  /** A four by four square; an L; a U with its opening above; all to the LEFT. */
  private static final String SQUARE = "00404404";
  private static final String ELL = "004042222404";
  private static final String YOU = "0060664642222606";
  private static final String BOW = "00444004";
  private static final String DECAGON = "5080b2d5d8bb8d5d2b08";

  public static void main(String[] args) {
    promise12Sound();
    promise12Few();
    promise13About();
    promise13Cuts();
    promise13Refused();
    promise14Where();
    promise15How();
    promise16Wide();
    promise17Narrow();
    promise18Grown();
    promise19Hull();
    promise19Refused();
    D.end();
  }

  private static void dueSound(String text, int want) {
    for (int t = 0; t < 8; t++) {
      FieldsByDots x = Due.with("", text);
      x.turn(1, t);
      D.due("sound(1) of " + text + " turned by " + t, x.sound(1), want);
      D.due("count(2)", x.count(2), want);
    }
  }

  private static void promise12Sound() {
    dueSound("001001", 1);
    dueSound("00f0ff0f", 1);
    dueSound(SQUARE, 1);
    dueSound(ELL, 1);
    dueSound(YOU, 1);
    // two fences cross
    dueSound(BOW, 0);
    // a corner lies on a fence that it has no part in, in both orders
    dueSound("00404420", 0);
    dueSound("2004004044", 0);
    dueSound("0080882048", 0);
    // a fence goes back along the one before it
    dueSound("004020", 0);
    dueSound("00402023", 0);
    dueSound("40002023", 0);
    dueSound("40202300", 0);
    dueSound("20230040", 0);
    dueSound("20402300", 1);
    // all in one line
    dueSound("001122", 0);
    dueSound("00203010", 0);
    // fences that have no corner in common lie along one another
    dueSound("008084602004", 0);
    // fences in one line that don't touch
    dueSound("0090936362323303", 1);
    // flat corners
    dueSound("0020404404", 1);
    dueSound("0020404244240402", 1);
    // a near miss and a near hit of the fence from (0, 0) to (f, e)
    dueSound("00fe0f77", 1);
    dueSound("00fe0f87", 0);
  }

  private static void promise12Few() {
    FieldsByDots x = new FieldsByDots();
    D.due("sound(0), empty", x.sound(0), 0);
    x.put(0, 0, 3, 3);
    D.due("sound(0), one corner", x.sound(0), 0);
    x.put(0, 0, 5, 3);
    D.due("sound(0), two corners", x.sound(0), 0);
    x.put(0, 0, 4, 3);
    D.due("sound(0), in one line", x.sound(0), 0);
    x.move(0, 0, 4, 4);
    D.due("sound(0), three-cornered", x.sound(0), 1);
    D.due("sound(4)", x.sound(4), -1);
    D.due("sound(-1)", x.sound(-1), -1);
    D.due("sound(MIN)", x.sound(MIN), -1);
    D.due("sound(MAX)", x.sound(MAX), -1);
  }

  /** AREA, LEFT, DOTS on FENCES, within, CORNERS that STICK IN, FLAT ones, STRIPS, CUTS, LEAST. */
  private static void dueAbout(String text, int... want) {
    FieldsByDots x = Due.with("", "", text);
    for (int what = 0; what < want.length; what++) {
      D.due("about(2, " + what + ") of " + text, x.about(2, what), want[what]);
    }
  }

  private static void promise13About() {
    dueAbout(SQUARE, 32, 1, 16, 9, 0, 0);
    dueAbout("04444000", 32, 0, 16, 9, 0, 0);
    dueAbout(ELL, 24, 1, 16, 5, 1, 0);
    dueAbout(YOU, 56, 1, 32, 13, 2, 0);
    dueAbout("0626224246666000", 56, 0, 32, 13, 2, 0);
    dueAbout("001001", 1, 1, 3, 0, 0, 0);
    dueAbout("000110", 1, 0, 3, 0, 0, 0);
    dueAbout("00f0ff0f", 450, 1, 60, 196, 0, 0);
    dueAbout("0020404404", 32, 1, 16, 9, 0, 1);
    dueAbout("0020404244240402", 32, 1, 16, 9, 0, 4);
    dueAbout("0402002040424424", 32, 1, 16, 9, 0, 4);
    dueAbout("2040440400", 32, 1, 16, 9, 0, 1);
    dueAbout("222404004042", 24, 1, 16, 5, 1, 0);
    // fences of 1, 1 and 3 steps; of 3, 9 and 6
    dueAbout("001463", 21, 0, 5, 9, 0, 0);
    dueAbout("00636c", 54, 1, 18, 19, 0, 0);
  }

  private static void promise13Cuts() {
    // nothing to cut
    dueAbout("001001", 1, 1, 3, 0, 0, 0, 0, 1, 0);
    // either diagonal
    dueAbout(SQUARE, 32, 1, 16, 9, 0, 0, 2, 2, 32);
    // only the strip from the flat corner (the other diagonal lies on the fences)
    dueAbout("00204004", 16, 1, 12, 3, 0, 1, 1, 1, 20);
    // 02, 03, 04, 13, 35: 03 must be there, with 02 or 13, with 04 or 35
    dueAbout(ELL, 24, 1, 16, 5, 1, 0, 5, 4, 24);
    // 04, 05, 06, 13, 14, 15, 24, 57: 05, 14 must be there, with 04 or 15, 06 or 57, 13 or 24
    dueAbout(YOU, 56, 1, 32, 13, 2, 0, 8, 8, 76);
    // with no corners that stick in: the Catalan numbers
    dueAbout("0040634604", 52, 1, 12, 21, 0, 0, 5, 5, 68);
    dueAbout("205073562603", 60, 1, 10, 26, 0, 0, 9, 14, 104);
    dueAbout(DECAGON, 238, 1, 16, 112, 0, 0, 35, 1430);
  }

  private static void promise13Refused() {
    FieldsByDots x = Due.with(SQUARE, BOW);
    for (int what = 0; what < 9; what++) {
      D.due("about(1, what) of a bow", x.about(1, what), -3);
      D.due("about(2, what) of none", x.about(2, what), -3);
      D.due("about(4, what)", x.about(4, what), -1);
      D.due("about(-1, what)", x.about(-1, what), -1);
    }
    D.due("about(0, 9)", x.about(0, 9), -2);
    D.due("about(0, -1)", x.about(0, -1), -2);
    D.due("about(0, MIN)", x.about(0, MIN), -2);
    D.due("about(1, 9) of a bow", x.about(1, 9), -2);
    D.due("about(4, 9)", x.about(4, 9), -1);
  }

  /** All 256 DOTS, the topmost row first: o on a FENCE, # within, . beyond. */
  private static void dueWhere(String text, String... rows) {
    FieldsByDots x = Due.with(text);
    for (int y = 0; y < 16; y++) {
      for (int at = 0; at < 16; at++) {
        int row = rows.length - 1 - y;
        char sign = row >= 0 && at < rows[row].length() ? rows[row].charAt(at) : '.';
        int want = sign == 'o' ? 0 : sign == '#' ? 1 : 2;
        D.due("where(0, " + at + ", " + y + ") of " + text, x.where(0, at, y), want);
      }
    }
  }

  private static void promise14Where() {
    dueWhere(SQUARE, "ooooo", "o###o", "o###o", "o###o", "ooooo");
    dueWhere(YOU, "ooo.ooo", "o#o.o#o", "o#o.o#o", "o#o.o#o", "o#ooo#o", "o#####o", "ooooooo");
    dueWhere("0626224246666000",
        "ooo.ooo", "o#o.o#o", "o#o.o#o", "o#o.o#o", "o#ooo#o", "o#####o", "ooooooo");
    // corners at the height of dots within and beyond
    dueWhere("20422402", "..o..", ".o#o.", "o###o", ".o#o.", "..o..");
    dueWhere("00326036", "...o", "...#", "..o#o", "..###", ".o#o#o", ".#...#", "o.....o");
    FieldsByDots x = Due.with(SQUARE, BOW);
    D.due("where(0, 16, 0)", x.where(0, 16, 0), -2);
    D.due("where(0, 0, 16)", x.where(0, 0, 16), -2);
    D.due("where(0, -1, 0)", x.where(0, -1, 0), -2);
    D.due("where(0, 0, -1)", x.where(0, 0, -1), -2);
    D.due("where(0, MIN, MAX)", x.where(0, MIN, MAX), -2);
    D.due("where(1, 1, 1) of a bow", x.where(1, 1, 1), -3);
    D.due("where(2, 1, 1) of none", x.where(2, 1, 1), -3);
    D.due("where(1, 16, 1) of a bow", x.where(1, 16, 1), -2);
    D.due("where(4, 1, 1)", x.where(4, 1, 1), -1);
    D.due("where(-1, 16, 1)", x.where(-1, 16, 1), -1);
  }

  private static void dueHow(String text, int... want) {
    for (int t = 0; t < 8; t++) {
      FieldsByDots x = Due.with(text);
      x.turn(0, t);
      for (int i = 0; i < want.length; i++) {
        D.due("how(0, " + i + ") of " + text + " turned by " + t, x.how(0, i), want[i]);
      }
    }
  }

  private static void promise15How() {
    dueHow(SQUARE, 0, 0, 0, 0);
    dueHow("04444000", 0, 0, 0, 0);
    dueHow(ELL, 0, 0, 0, 2, 0, 0);
    dueHow(YOU, 0, 0, 0, 0, 2, 2, 0, 0);
    dueHow("0626224246666000", 0, 0, 2, 2, 0, 0, 0, 0);
    dueHow("2040440400", 1, 0, 0, 0, 0);
    dueHow("0020404404", 0, 1, 0, 0, 0);
    dueHow("0040440402", 0, 0, 0, 0, 1);
    FieldsByDots x = Due.with(SQUARE, BOW);
    D.due("how(0, 4)", x.how(0, 4), -1);
    D.due("how(0, -1)", x.how(0, -1), -1);
    D.due("how(0, MAX)", x.how(0, MAX), -1);
    D.due("how(4, 0)", x.how(4, 0), -1);
    D.due("how(-1, 0)", x.how(-1, 0), -1);
    D.due("how(1, 0) of a bow", x.how(1, 0), -3);
    D.due("how(1, 4) of a bow", x.how(1, 4), -1);
    D.due("how(2, 0) of none", x.how(2, 0), -1);
  }

  private static void promise16Wide() {
    FieldsByDots x = Due.with(ELL, BOW, "00f0ff0f");
    D.due("wide(0, 1, 0)", x.wide(0, 1, 0), 4);
    D.due("wide(0, 0, 1)", x.wide(0, 0, 1), 4);
    D.due("wide(0, 1, 1)", x.wide(0, 1, 1), 6);
    D.due("wide(0, 1, -1)", x.wide(0, 1, -1), 8);
    D.due("wide(0, -1, -1)", x.wide(0, -1, -1), 6);
    D.due("wide(0, 2, 2)", x.wide(0, 2, 2), 12);
    D.due("wide(0, 3, 1)", x.wide(0, 3, 1), 14);
    D.due("wide(1, 1, 1) of a bow", x.wide(1, 1, 1), 8);
    D.due("wide(2, 9, -9)", x.wide(2, 9, -9), 270);
    D.due("wide(2, -9, 9)", x.wide(2, -9, 9), 270);
    D.due("wide(0, 0, 0)", x.wide(0, 0, 0), -2);
    D.due("wide(0, 10, 1)", x.wide(0, 10, 1), -2);
    D.due("wide(0, -10, 1)", x.wide(0, -10, 1), -2);
    D.due("wide(0, 1, 10)", x.wide(0, 1, 10), -2);
    D.due("wide(0, 1, -10)", x.wide(0, 1, -10), -2);
    D.due("wide(0, MIN, MAX)", x.wide(0, MIN, MAX), -2);
    D.due("wide(3, 1, 0) of none", x.wide(3, 1, 0), -3);
    D.due("wide(3, 0, 0) of none", x.wide(3, 0, 0), -2);
    D.due("wide(4, 1, 0)", x.wide(4, 1, 0), -1);
    D.due("wide(-1, 0, 0)", x.wide(-1, 0, 0), -1);
    x.put(3, 0, 15, 15);
    D.due("wide(3, 9, 9) of one corner", x.wide(3, 9, 9), 0);
    x.put(3, 0, 14, 15);
    D.due("wide(3, 9, 9) of two", x.wide(3, 9, 9), 9);
  }

  private static void dueNarrow(String text, int wide, int a, int b) {
    FieldsByDots x = Due.with("", "", "", text);
    D.due("narrow(3, 0) of " + text, x.narrow(3, 0), wide);
    D.due("narrow(3, 1) of " + text, x.narrow(3, 1), a);
    D.due("narrow(3, 2) of " + text, x.narrow(3, 2), b + 100);
  }

  /** Two corners make no text of a field: they are put. */
  private static void dueNarrowOfTwo(String two, int wide, int a, int b) {
    FieldsByDots x = new FieldsByDots();
    for (int i = 0; i < 4; i += 2) {
      x.put(0, 0, Character.digit(two.charAt(i), 16), Character.digit(two.charAt(i + 1), 16));
    }
    D.due("narrow(0, 0) of " + two, x.narrow(0, 0), wide);
    D.due("narrow(0, 1) of " + two, x.narrow(0, 1), a);
    D.due("narrow(0, 2) of " + two, x.narrow(0, 2), b + 100);
  }

  private static void promise17Narrow() {
    dueNarrow(SQUARE, 4, 0, -1);
    dueNarrow(BOW, 4, 0, -1);
    dueNarrow("001099", 1, 1, -1);
    dueNarrow("00849511", 1, 1, -2);
    dueNarrow("00485911", 1, 2, -1);
    dueNarrow("001f0f10", 1, 1, 0);
    dueNarrow("00f10110", 1, 0, -1);
    dueNarrow("002244", 0, 1, -1);
    // of like ones: (1, -1) and (1, 0); (1, 0) and (1, 1); (3, -2), (4, -3) and (7, -5)
    dueNarrow("113234", 2, 1, -1);
    dueNarrow("224124", 2, 1, 0);
    dueNarrow("205477", 1, 3, -2);
    dueNarrowOfTwo("0089", 0, 9, -8);
    dueNarrowOfTwo("0098", 0, 8, -9);
    dueNarrowOfTwo("0980", 0, 9, 8);
    dueNarrowOfTwo("0890", 0, 8, 9);
    // 10 and -11 are too steep
    dueNarrowOfTwo("00ba", 1, 1, -1);
    FieldsByDots x = Due.with(SQUARE);
    D.due("narrow(0, 3)", x.narrow(0, 3), -2);
    D.due("narrow(0, -1)", x.narrow(0, -1), -2);
    D.due("narrow(0, MIN)", x.narrow(0, MIN), -2);
    D.due("narrow(1, 0) of none", x.narrow(1, 0), -3);
    D.due("narrow(1, 3) of none", x.narrow(1, 3), -2);
    D.due("narrow(4, 0)", x.narrow(4, 0), -1);
    D.due("narrow(-1, 3)", x.narrow(-1, 3), -1);
    x.put(1, 0, 7, 7);
    D.due("narrow(1, 0) of one corner", x.narrow(1, 0), 0);
    D.due("narrow(1, 1) of one corner", x.narrow(1, 1), 0);
    D.due("narrow(1, 2) of one corner", x.narrow(1, 2), 99);
  }

  private static void promise18Grown() {
    FieldsByDots x = Due.with(SQUARE, "000110", BOW, "00f0ff0f");
    D.due("grown(0, 1)", x.grown(0, 1), 25);
    D.due("grown(0, 3)", x.grown(0, 3), 169);
    D.due("grown(0, 99)", x.grown(0, 99), 397 * 397);
    D.due("grown(1, 1)", x.grown(1, 1), 3);
    D.due("grown(1, 4)", x.grown(1, 4), 15);
    D.due("grown(1, 99)", x.grown(1, 99), 100 * 101 / 2);
    D.due("grown(3, 99)", x.grown(3, 99), 1486L * 1486L);
    D.due("grown(0, 0)", x.grown(0, 0), -2);
    D.due("grown(0, 100)", x.grown(0, 100), -2);
    D.due("grown(0, -1)", x.grown(0, -1), -2);
    D.due("grown(0, MIN)", x.grown(0, MIN), -2);
    D.due("grown(2, 1) of a bow", x.grown(2, 1), -3);
    D.due("grown(2, 0) of a bow", x.grown(2, 0), -2);
    D.due("grown(4, 1)", x.grown(4, 1), -1);
    D.due("grown(-1, 0)", x.grown(-1, 0), -1);
    FieldsByDots none = new FieldsByDots();
    D.due("grown(0, 1) of none", none.grown(0, 1), -3);
  }

  private static void dueHull(String text, String want) {
    FieldsByDots x = Due.with(text, "123456");
    D.due("hull(1, 0) of " + text, x.hull(1, 0), want.length() / 2);
    D.dueTold("hull(1, 0) of " + text, x, 1, want);
    D.dueTold("the other one stays", x, 0, text);
    D.due("hull(0, 0) of " + text, x.hull(0, 0), want.length() / 2);
    D.dueTold("hull(0, 0) of " + text, x, 0, want);
  }

  private static void promise19Hull() {
    dueHull(SQUARE, SQUARE);
    dueHull("44400004", SQUARE);
    dueHull("04444000", SQUARE);
    dueHull(BOW, SQUARE);
    dueHull(ELL, "0040422404");
    dueHull(YOU, "00606606");
    dueHull("0040220424", "00402404");
    // flat ones go, from the least x, of these the least y
    dueHull("0020404244240402", SQUARE);
    dueHull("224240442404022000", SQUARE);
    dueHull("f0ff0f", "0ff0ff");
    dueHull(DECAGON, "085080b2d5d8bb8d5d2b");
    // of corners in a row the farthest, in either order
    dueHull("00112233f0", "00f033");
    dueHull("00332211f0", "00f033");
    dueHull("22110033f0", "00f033");
  }

  private static void promise19Refused() {
    FieldsByDots x = Due.with("112244", SQUARE);
    D.due("hull(1, 0) of one line", x.hull(1, 0), -3);
    D.due("hull(0, 0) of one line", x.hull(0, 0), -3);
    D.due("hull(1, 2) of none", x.hull(1, 2), -3);
    x.put(2, 0, 1, 1);
    D.due("hull(1, 2) of one corner", x.hull(1, 2), -3);
    x.put(2, 0, 4, 1);
    D.due("hull(1, 2) of two", x.hull(1, 2), -3);
    x.put(2, 0, 5, 1);
    D.due("hull(1, 2) of three in one line", x.hull(1, 2), -3);
    D.due("hull(4, 1)", x.hull(4, 1), -1);
    D.due("hull(1, 4)", x.hull(1, 4), -1);
    D.due("hull(-1, 2)", x.hull(-1, 2), -1);
    D.due("hull(1, -1)", x.hull(1, -1), -1);
    D.due("hull(MIN, MAX)", x.hull(MIN, MAX), -1);
    D.dueTold("refused, nothing changed", x, 1, SQUARE);
    D.dueTold("refused, nothing changed", x, 0, "112244");
    x.put(2, 0, 5, 2);
    D.due("hull(1, 2)", x.hull(1, 2), 3);
    D.due("hull(3, 1) into an empty one", x.hull(3, 1), 3);
    D.dueTold("hull", x, 3, "115152");
  }
}
