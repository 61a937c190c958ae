/** The sentences of promises 12 to 19 that name a boundary, each with rows of its own. */
public final class ShapesBoundsTest {
  private static final Due D = new Due("ShapesBoundsTest");
  private static final Sentences S = new Sentences(D);
  private static final String BOW = "00444004";
  private static final String FAN = "0010203040506070800f";

  public static void main(String[] args) {
    promise12();
    promise13();
    promise13Refused();
    promise14();
    promise15();
    promise16();
    promise17();
    promise18();
    promise19();
    promise19Refused();
    D.end();
  }

  private static void promise12() {
    S.holds("12: SOUND: 1, 0: of 0, 1, 2, 3 CORNERS",
        "sound 0 = 0", "put 0 0 0 0 = 1", "sound 0 = 0", "put 0 0 1 0 = 2", "sound 0 = 0",
        "put 0 0 0 1 = 3", "sound 0 = 1");
    S.holds("12: of ten, on all edges, with FENCES straight on",
        "is 0 0070f0f7ff7f0f090502", "sound 0 = 1", "is 1 " + FAN, "sound 1 = 1");
    S.holds("12: the last of ten CORNERS makes the difference",
        "is 0 001020304050607080", "sound 0 = 0", "put 0 9 9 0 = 10", "sound 0 = 0",
        "move 0 9 9 1 = 1", "sound 0 = 1", "move 0 9 4 1 = 1", "sound 0 = 1");
    S.holds("12: UNKNOWN", "sound -1 = -1", "sound 4 = -1", "sound MIN = -1", "sound MAX = -1");
  }

  private static void promise13() {
    S.holds("13: AREA (what = 0) to LEAST (8), of the least FIELD of all",
        "is 0 001001",
        "about 0 0 = 1", "about 0 1 = 1", "about 0 2 = 3", "about 0 3 = 0", "about 0 4 = 0",
        "about 0 5 = 0", "about 0 6 = 0", "about 0 7 = 1", "about 0 8 = 0");
    S.holds("13: of the greatest one",
        "is 3 00f0ff0f",
        "about 3 0 = 450", "about 3 1 = 1", "about 3 2 = 60", "about 3 3 = 196", "about 3 4 = 0",
        "about 3 5 = 0", "about 3 6 = 2", "about 3 7 = 2", "about 3 8 = 450");
    S.holds("13: of one with ten CORNERS, seven of them FLAT",
        "is 1 " + FAN,
        "about 1 0 = 120", "about 1 1 = 1", "about 1 2 = 24", "about 1 3 = 49", "about 1 4 = 0",
        "about 1 5 = 7", "about 1 6 = 7", "about 1 7 = 1", "about 1 8 = 1715");
    S.holds("13: of one with ten CORNERS, as many STICK IN as may: seven",
        // a hollow bow from (e, 0) to (1, e)
        "is 2 00e0a172534436291d1e",
        "about 2 0 = 91", "about 2 1 = 1", "about 2 2 = 23", "about 2 3 = 35", "about 2 4 = 7",
        "about 2 5 = 0", "about 2 6 = 7", "about 2 7 = 1", "about 2 8 = 520");
    S.holds("13: what changes with each CORNER that is moved, put in, taken out",
        "is 0 00404404", "about 0 0 = 32", "move 0 2 2 2 = 1", "about 0 0 = 16",
        "about 0 5 = 1", "move 0 2 1 1 = 1", "about 0 4 = 1", "about 0 5 = 0", "about 0 0 = 8",
        "put 0 3 1 2 = 5", "about 0 0 = 9", "take 0 3 = 4", "about 0 0 = 8");
  }

  private static void promise13Refused() {
    S.holds("13: UNKNOWN", "about -1 0 = -1", "about 4 0 = -1", "about MIN 0 = -1",
        "about MAX 8 = -1");
    S.holds("13: OUTSIDE",
        "is 0 001001", "about 0 -1 = -2", "about 0 9 = -2", "about 0 MIN = -2",
        "about 0 MAX = -2");
    S.holds("13: STATE: it is not SOUND: empty, one or two CORNERS, FENCES that cross",
        "about 0 0 = -3", "about 0 8 = -3", "is 0 00", "about 0 0 = -3", "about 0 7 = -3",
        "is 1 0010", "about 1 0 = -3", "about 1 8 = -3",
        "is 2 " + BOW, "about 2 0 = -3", "about 2 1 = -3", "about 2 2 = -3", "about 2 3 = -3",
        "about 2 4 = -3", "about 2 5 = -3", "about 2 6 = -3", "about 2 7 = -3", "about 2 8 = -3");
    S.holds("13: UNKNOWN ahead of OUTSIDE, OUTSIDE ahead of STATE",
        "is 2 " + BOW, "about 4 9 = -1", "about -1 -1 = -1", "about 2 9 = -2", "about 2 -1 = -2",
        "about 0 9 = -2");
  }

  private static void promise14() {
    S.holds("14: 0 on a FENCE: at the first, the last CORNER, on the last FENCE",
        "is 0 00f0ff0f", "where 0 0 0 = 0", "where 0 0 15 = 0", "where 0 0 7 = 0",
        "where 0 15 7 = 0", "where 0 7 15 = 0");
    S.holds("14: 1 within, 2 beyond: a DOT beside the FENCE, at either side",
        "is 0 11e1ee1e",
        "where 0 2 2 = 1", "where 0 1 2 = 0", "where 0 0 2 = 2",
        "where 0 13 13 = 1", "where 0 14 13 = 0", "where 0 15 13 = 2",
        "where 0 7 0 = 2", "where 0 7 1 = 0", "where 0 7 2 = 1",
        "where 0 7 15 = 2", "where 0 7 14 = 0", "where 0 7 13 = 1");
    S.holds("14: beyond, in one line with a FENCE, at the height of CORNERS",
        "is 1 228255", "where 1 1 2 = 2", "where 1 9 2 = 2", "where 1 2 5 = 2", "where 1 8 5 = 2",
        "where 1 4 5 = 2", "where 1 5 5 = 0", "where 1 5 6 = 2", "where 1 6 6 = 2",
        "where 1 1 1 = 2");
    S.holds("14: UNKNOWN", "where -1 0 0 = -1", "where 4 0 0 = -1", "where MIN 0 0 = -1",
        "where MAX 0 0 = -1");
    S.holds("14: OUTSIDE: x, y",
        "is 0 00f0ff0f", "where 0 -1 7 = -2", "where 0 16 7 = -2", "where 0 7 -1 = -2",
        "where 0 7 16 = -2", "where 0 MIN 7 = -2", "where 0 7 MAX = -2");
    S.holds("14: STATE",
        "where 0 0 0 = -3", "is 0 00", "where 0 0 0 = -3", "is 1 " + BOW, "where 1 0 0 = -3",
        "where 1 15 15 = -3");
    S.holds("14: UNKNOWN ahead of OUTSIDE, OUTSIDE ahead of STATE",
        "is 1 " + BOW, "where 4 16 0 = -1", "where -1 0 -1 = -1", "where 1 16 0 = -2",
        "where 1 0 -1 = -2", "where 0 0 16 = -2");
  }

  private static void promise15() {
    S.holds("15: 0 it sticks out, 1 FLAT, 2 it STICKS IN: the first CORNER",
        "is 0 004004", "how 0 0 = 0", "is 1 20404400", "how 1 0 = 1",
        "is 2 222404004042", "how 2 0 = 2");
    S.holds("15: the last CORNER",
        "is 0 004004", "how 0 2 = 0", "is 1 40440020", "how 1 3 = 1",
        "is 2 240400404222", "how 2 5 = 2");
    S.holds("15: the last of ten", "is 0 " + FAN, "how 0 9 = 0", "how 0 0 = 0", "how 0 8 = 0",
        "how 0 1 = 1", "how 0 7 = 1");
    S.holds("15: UNKNOWN",
        "is 0 004004", "how 0 3 = -1", "how 0 -1 = -1", "how 0 MIN = -1", "how 0 MAX = -1",
        "how 1 0 = -1", "how -1 0 = -1", "how 4 0 = -1");
    S.holds("15: STATE", "is 0 " + BOW, "how 0 0 = -3", "how 0 3 = -3", "is 1 00", "how 1 0 = -3",
        "is 2 0010", "how 2 1 = -3");
    S.holds("15: UNKNOWN ahead of STATE", "is 0 " + BOW, "how 0 4 = -1", "how 0 -1 = -1",
        "how 1 0 = -1", "how 4 0 = -1");
  }

  private static void promise16() {
    S.holds("16: How wide by a SLANT (any): with common divisors, below 0",
        "is 0 004042222404", "wide 0 1 1 = 6", "wide 0 2 2 = 12", "wide 0 9 9 = 54",
        "wide 0 -1 -1 = 6", "wide 0 0 9 = 36", "wide 0 0 -9 = 36", "wide 0 -9 0 = 36");
    S.holds("16: of one CORNER, of two, of FENCES that cross",
        "is 0 ff", "wide 0 9 9 = 0", "wide 0 1 0 = 0", "is 1 00ff", "wide 1 9 9 = 270",
        "wide 1 9 -9 = 0", "is 2 " + BOW, "wide 2 1 0 = 4");
    S.holds("16: UNKNOWN", "wide -1 1 0 = -1", "wide 4 1 0 = -1", "wide MIN 1 0 = -1",
        "wide MAX 1 0 = -1");
    S.holds("16: OUTSIDE: a, b",
        "is 0 004004", "wide 0 -10 0 = -2", "wide 0 10 0 = -2", "wide 0 0 -10 = -2",
        "wide 0 0 10 = -2", "wide 0 0 0 = -2", "wide 0 MIN 0 = -2", "wide 0 0 MAX = -2",
        "wide 0 -9 0 = 36", "wide 0 0 9 = 36");
    S.holds("16: STATE: no CORNERS", "wide 0 1 0 = -3", "wide 3 -9 9 = -3", "put 3 0 0 0 = 1",
        "wide 3 -9 9 = 0");
    S.holds("16: UNKNOWN ahead of OUTSIDE, OUTSIDE ahead of STATE",
        "wide 4 0 0 = -1", "wide -1 10 0 = -1", "wide 0 0 0 = -2", "wide 0 10 0 = -2",
        "wide 0 0 -10 = -2");
  }

  private static void promise17() {
    S.holds("17: NARROW (what = 0), a (1), b of it, and 100 (2): b -9 and 9",
        "is 0 0098", "narrow 0 0 = 0", "narrow 0 1 = 8", "narrow 0 2 = 91",
        "is 1 0890", "narrow 1 0 = 0", "narrow 1 1 = 8", "narrow 1 2 = 109");
    S.holds("17: a 0 and 9",
        "is 0 00f0", "narrow 0 1 = 0", "narrow 0 2 = 99",
        "is 1 0029", "narrow 1 0 = 0", "narrow 1 1 = 9", "narrow 1 2 = 98");
    S.holds("17: of one CORNER, of FENCES that cross, of the greatest of all",
        "is 0 f0", "narrow 0 0 = 0", "narrow 0 1 = 0", "narrow 0 2 = 99",
        "is 1 " + BOW, "narrow 1 0 = 4", "narrow 1 1 = 0", "narrow 1 2 = 99",
        "is 2 00f0ff0f", "narrow 2 0 = 15", "narrow 2 1 = 0", "narrow 2 2 = 99");
    S.holds("17: UNKNOWN", "narrow -1 0 = -1", "narrow 4 0 = -1", "narrow MIN 0 = -1",
        "narrow MAX 2 = -1");
    S.holds("17: OUTSIDE", "is 0 f0", "narrow 0 -1 = -2", "narrow 0 3 = -2", "narrow 0 MIN = -2",
        "narrow 0 MAX = -2");
    S.holds("17: STATE: no CORNERS", "narrow 0 0 = -3", "narrow 0 1 = -3", "narrow 0 2 = -3",
        "put 0 0 0 0 = 1", "narrow 0 0 = 0");
    S.holds("17: UNKNOWN ahead of OUTSIDE, OUTSIDE ahead of STATE",
        "narrow 4 3 = -1", "narrow -1 -1 = -1", "narrow 0 3 = -2", "narrow 0 -1 = -2");
  }

  private static void promise18() {
    S.holds("18: GROWN: t 1 to 99",
        "is 0 004004", "grown 0 1 = 15", "grown 0 99 = 79003",
        "is 1 000110", "grown 1 1 = 3", "grown 1 99 = 5050",
        "is 2 00f0ff0f", "grown 2 1 = 256", "grown 2 99 = 2208196");
    S.holds("18: grown once it has the DOTS that it has: on FENCES and within",
        "is 0 004042222404", "about 0 2 = 16", "about 0 3 = 5", "grown 0 1 = 21",
        "grown 0 2 = 65");
    S.holds("18: UNKNOWN", "grown -1 1 = -1", "grown 4 1 = -1", "grown MIN 1 = -1",
        "grown MAX 1 = -1");
    S.holds("18: OUTSIDE", "is 0 004004", "grown 0 0 = -2", "grown 0 100 = -2", "grown 0 -1 = -2",
        "grown 0 MIN = -2", "grown 0 MAX = -2");
    S.holds("18: STATE: it is not SOUND", "grown 0 1 = -3", "is 0 00", "grown 0 99 = -3",
        "is 1 " + BOW, "grown 1 1 = -3", "grown 1 99 = -3");
    S.holds("18: UNKNOWN ahead of OUTSIDE, OUTSIDE ahead of STATE",
        "is 1 " + BOW, "grown 4 0 = -1", "grown -1 100 = -1", "grown 1 0 = -2",
        "grown 1 100 = -2", "grown 0 0 = -2");
  }

  private static void promise19() {
    S.holds("19: A FIELD becomes the HULL of another one: how many CORNERS: three, ten",
        "is 0 00f00f", "is 1 5080b2d5d8bb8d5d2b08",
        "hull 2 0 = 3", "told 2 00f00f", "hull 2 1 = 10", "told 2 085080b2d5d8bb8d5d2b",
        "hull 2 0 = 3", "told 2 00f00f", "corner 2 3 0 = -1",
        "told 0 00f00f", "told 1 5080b2d5d8bb8d5d2b08");
    S.holds("19: (or of itself)",
        "is 3 004042222404", "hull 3 3 = 5", "told 3 0040422404", "hull 3 3 = 5",
        "told 3 0040422404");
    S.holds("19: it need not be SOUND", "is 0 " + BOW, "hull 1 0 = 4", "told 1 00404404",
        "sound 1 = 1");
    S.holds("19: the last CORNER is on it, the first is not",
        "is 0 1100f00f", "hull 1 0 = 3", "told 1 00f00f",
        "is 2 110f00f0", "hull 3 2 = 3", "told 3 00f00f");
    S.holds("19: what is kept stays", "is 0 1100f00f", "keep 0 = 4", "hull 0 0 = 3",
        "again 0 = 4", "told 0 1100f00f");
  }

  private static void promise19Refused() {
    S.holds("19: UNKNOWN: the one, the other one, both",
        "is 0 00f00f", "hull 4 0 = -1", "hull -1 0 = -1", "hull 0 4 = -1", "hull 0 -1 = -1",
        "hull 4 4 = -1", "hull MIN MAX = -1", "told 0 00f00f");
    S.holds("19: STATE: all its CORNERS are in one line, or there are none",
        "is 0 00f00f",
        "hull 0 1 = -3", "is 1 77", "hull 0 1 = -3", "put 1 0 8 9 = 2", "hull 0 1 = -3",
        "put 1 0 9 11 = 3", "hull 0 1 = -3", "hull 1 1 = -3", "told 1 9b8977", "told 0 00f00f",
        "put 1 0 9 12 = 4", "hull 0 1 = 3", "told 0 779b9c");
    S.holds("19: STATE: ten in one line, and the last of them not",
        "is 0 0010203040506070809f", "move 0 9 9 0 = 1", "hull 1 0 = -3", "move 0 9 9 1 = 1",
        "hull 1 0 = 3", "told 1 008091", "move 0 9 9 0 = 1", "move 0 0 0 1 = 1",
        "hull 1 0 = 3", "told 1 011090");
    S.holds("19: that the first one has CORNERS in one line, or none, is no matter",
        "is 0 00f00f", "is 1 112233", "hull 1 0 = 3", "told 1 00f00f", "hull 2 0 = 3");
    S.holds("19: UNKNOWN ahead of STATE", "hull 4 0 = -1", "hull -1 0 = -1", "hull 0 0 = -3");
  }
}
