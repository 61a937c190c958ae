/** The sentences of promises 20 to 26 that name a boundary, each with rows of its own. */
public final class SightsBoundsTest {
  private static final Due D = new Due("SightsBoundsTest");
  private static final Sentences S = new Sentences(D);
  private static final String SQUARE = "00404404";
  private static final String ELL = "004042222404";
  private static final String YOU = "0060664642222606";
  private static final String BOW = "00444004";
  private static final String FAN = "0010203040506070800f";
  /** A way that bends three times. */
  private static final String WAY = "00f0ff0f04343cccc303";

  public static void main(String[] args) {
    promise20();
    promise21();
    promise22();
    promise22Refused();
    promise23();
    promise24();
    promise24Refused();
    promise25();
    promise26();
    D.end();
  }

  private static void promise20() {
    S.holds("20: Whether two CORNERS see one another: 1, 0: the first and the last",
        "is 0 " + YOU, "sees 0 0 7 = 1", "sees 0 7 0 = 1", "sees 0 7 6 = 1", "sees 0 7 5 = 1",
        "sees 0 7 1 = 0", "sees 0 1 7 = 0", "sees 0 0 6 = 1", "sees 0 6 0 = 1");
    S.holds("20: of a three-cornered one all, of ten all, or hardly any",
        "is 0 001001", "sees 0 0 1 = 1", "sees 0 1 2 = 1", "sees 0 2 0 = 1",
        "is 1 " + FAN, "sees 1 0 9 = 1", "sees 1 9 8 = 1", "sees 1 4 9 = 1", "sees 1 0 8 = 1",
        "is 2 " + WAY, "sees 2 0 9 = 1", "sees 2 9 4 = 0", "sees 2 0 5 = 0", "sees 2 9 1 = 1");
    S.holds("20: UNKNOWN: also where both are one",
        "is 0 " + SQUARE, "sees 0 0 0 = -1", "sees 0 3 3 = -1",
        "sees 0 4 0 = -1", "sees 0 0 4 = -1", "sees 0 -1 0 = -1", "sees 0 0 -1 = -1",
        "sees 0 4 4 = -1", "sees 0 MIN 0 = -1", "sees 0 0 MAX = -1",
        "sees 1 0 1 = -1", "sees 4 0 1 = -1", "sees -1 0 1 = -1", "sees 0 3 0 = 1");
    S.holds("20: STATE: it is not SOUND",
        "is 0 " + BOW, "sees 0 0 1 = -3", "sees 0 3 0 = -3", "is 1 0010", "sees 1 0 1 = -3");
    S.holds("20: UNKNOWN ahead of STATE",
        "is 0 " + BOW, "sees 0 0 4 = -1", "sees 0 2 2 = -1", "is 1 00", "sees 1 0 0 = -1",
        "sees 1 0 1 = -1");
  }

  private static void promise21() {
    S.holds("21: Whether they make a STRIP: 1, 0: with the first, with the last",
        "is 0 " + YOU, "strip 0 0 6 = 1", "strip 0 6 0 = 1", "strip 0 7 5 = 1",
        "strip 0 0 7 = 0", "strip 0 7 0 = 0", "strip 0 7 6 = 0", "strip 0 7 1 = 0");
    S.holds("21: of 3 none, of 4 one or two, of 10",
        "is 0 001001", "strip 0 0 1 = 0", "strip 0 2 0 = 0",
        "is 1 " + SQUARE, "strip 1 0 2 = 1", "strip 1 1 3 = 1",
        "is 2 " + FAN, "strip 2 9 1 = 1", "strip 2 9 7 = 1", "strip 2 9 8 = 0", "strip 2 9 0 = 0",
        "strip 2 0 8 = 0", "strip 2 0 2 = 0");
    S.holds("21: UNKNOWN",
        "is 0 " + SQUARE, "strip 0 0 0 = -1", "strip 0 3 3 = -1",
        "strip 0 4 0 = -1", "strip 0 0 4 = -1", "strip 0 -1 0 = -1", "strip 0 0 -1 = -1",
        "strip 0 MIN 0 = -1", "strip 0 0 MAX = -1", "strip 1 0 1 = -1", "strip 4 0 2 = -1",
        "strip -1 0 2 = -1");
    S.holds("21: STATE",
        "is 0 " + BOW, "strip 0 0 2 = -3", "strip 0 3 1 = -3", "is 1 0010", "strip 1 0 1 = -3");
    S.holds("21: UNKNOWN ahead of STATE",
        "is 0 " + BOW, "strip 0 0 4 = -1", "strip 0 2 2 = -1", "is 1 00", "strip 1 0 0 = -1");
  }

  private static void promise22() {
    S.holds("22: The i-th STRIP of THE FIRST of the LEAST CUTS; NONE: there is none such",
        "is 0 001001", "least 0 0 = -9", "least 0 -1 = -9", "least 0 1 = -9",
        "is 1 " + SQUARE, "least 1 0 = 2", "least 1 1 = -9", "least 1 -1 = -9",
        "is 2 " + FAN, "least 2 0 = 19", "least 2 6 = 79", "least 2 7 = -9", "least 2 -1 = -9",
        "least 2 MIN = -9", "least 2 MAX = -9");
    S.holds("22: sorted, the first of ten CORNERS and the last of them among them",
        "is 0 00e0a172534436291d1e", "least 0 0 = 2", "least 0 1 = 3", "least 0 6 = 8",
        "least 0 7 = -9",
        "is 1 " + ELL, "least 1 0 = 3", "least 1 1 = 13", "least 1 2 = 35", "least 1 3 = -9");
    S.holds("22: the least, not the first: 13 is shorter than 02",
        "is 0 00507323", "least 0 0 = 13", "about 0 8 = 18", "is 1 50732300", "least 1 0 = 2",
        "about 1 8 = 18");
  }

  private static void promise22Refused() {
    S.holds("22: UNKNOWN", "least -1 0 = -1", "least 4 0 = -1", "least MIN 0 = -1",
        "least MAX -1 = -1");
    S.holds("22: STATE", "least 0 0 = -3", "least 0 -1 = -3", "is 0 " + BOW, "least 0 0 = -3",
        "least 0 7 = -3", "least 0 MAX = -3", "is 1 00", "least 1 0 = -3");
  }

  private static void promise23() {
    S.holds("23: FAIR; NONE: of 3 CORNERS",
        "is 0 001001", "fair 0 = -9", "is 1 00f0ff", "fair 1 = -9");
    S.holds("23: of 4, of 10; of like ones the least told",
        "is 0 " + SQUARE, "fair 0 = 2", "is 1 00205004", "fair 1 = 13", "is 2 " + FAN,
        "fair 2 = 49");
    S.holds("23: the fairest is the last STRIP told",
        "is 0 001020404c", "fair 0 = 24", "sides 0 2 4 = 0", "sides 0 1 4 = 24");
    S.holds("23: UNKNOWN", "fair -1 = -1", "fair 4 = -1", "fair MIN = -1", "fair MAX = -1");
    S.holds("23: STATE", "fair 0 = -3", "is 0 00", "fair 0 = -3", "is 1 " + BOW, "fair 1 = -3");
  }

  private static void promise24() {
    S.holds("24: How much both AREAS by a STRIP differ: not at all, by 1 and 225",
        "is 0 " + SQUARE, "sides 0 0 2 = 0", "sides 0 2 0 = 0", "sides 0 1 3 = 0",
        "is 1 0010f10f", "about 1 0 = 226", "sides 1 0 2 = 224",
        "is 2 0010ff01", "sides 2 0 2 = 0");
    S.holds("24: a STRIP of the first, of the last of ten CORNERS",
        "is 0 " + FAN, "sides 0 9 1 = 90", "sides 0 1 9 = 90", "sides 0 9 7 = 90",
        "is 1 00e0a172534436291d1e", "sides 1 0 2 = 63", "sides 1 8 0 = 89");
    S.holds("24: to the right as to the left",
        "is 0 " + YOU, "sides 0 0 6 = 32", "turn 0 4 = 8", "about 0 1 = 0", "sides 0 0 6 = 32");
  }

  private static void promise24Refused() {
    S.holds("24: UNKNOWN",
        "is 0 " + SQUARE, "sides 0 4 0 = -1", "sides 0 0 4 = -1", "sides 0 -1 1 = -1",
        "sides 0 1 -1 = -1", "sides 0 MIN 0 = -1", "sides 0 0 MAX = -1", "sides 1 0 2 = -1",
        "sides 4 0 2 = -1", "sides -1 0 2 = -1");
    S.holds("24: STATE: it is not SOUND",
        "is 0 " + BOW, "sides 0 0 2 = -3", "sides 0 0 1 = -3", "is 1 00", "sides 1 0 0 = -3");
    S.holds("24: STATE: or that is no STRIP",
        "is 0 " + SQUARE, "sides 0 0 1 = -3", "sides 0 3 0 = -3", "sides 0 0 3 = -3",
        "sides 0 2 2 = -3",
        "is 1 " + ELL, "sides 1 1 5 = -3", "sides 1 2 4 = -3", "sides 1 0 3 = 0",
        "is 2 001001", "sides 2 0 1 = -3", "sides 2 0 2 = -3");
    S.holds("24: UNKNOWN ahead of STATE",
        "is 0 " + BOW, "sides 0 0 4 = -1", "sides 0 -1 0 = -1", "is 1 " + SQUARE,
        "sides 1 4 4 = -1");
  }

  private static void promise25() {
    S.holds("25: GUARDS, as bits: the least number, the greatest of one",
        "is 0 001001", "guards 0 = 1", "is 1 f041e743cc347e140f00", "guards 1 = 512",
        "is 2 00f041e743cc347e140f", "guards 2 = 1");
    S.holds("25: UNKNOWN", "guards -1 = -1", "guards 4 = -1", "guards MIN = -1",
        "guards MAX = -1");
    S.holds("25: STATE", "guards 0 = -3", "is 0 00", "guards 0 = -3", "is 1 " + BOW,
        "guards 1 = -3");
  }

  private static void promise26() {
    S.holds("26: HOPS: 1 where they see one another, more where they don't",
        "is 0 " + YOU, "hops 0 0 7 = 1", "hops 0 7 0 = 1", "hops 0 7 1 = 2", "hops 0 7 2 = 3",
        "is 1 " + WAY, "hops 1 9 4 = 4", "hops 1 0 9 = 1", "hops 1 9 0 = 1", "hops 1 9 3 = 3",
        "is 2 001001", "hops 2 0 1 = 1", "hops 2 2 0 = 1");
    S.holds("26: from a CORNER to itself there is no step to take",
        "is 0 " + SQUARE, "hops 0 0 0 = 0", "hops 0 3 3 = 0");
    S.holds("26: UNKNOWN",
        "is 0 " + SQUARE, "hops 0 4 0 = -1", "hops 0 0 4 = -1", "hops 0 -1 0 = -1",
        "hops 0 0 -1 = -1", "hops 0 MIN 0 = -1", "hops 0 0 MAX = -1", "hops 1 0 0 = -1",
        "hops 4 0 1 = -1", "hops -1 0 1 = -1");
    S.holds("26: STATE",
        "is 0 " + BOW, "hops 0 0 1 = -3", "hops 0 3 3 = -3", "is 1 00", "hops 1 0 0 = -3",
        "is 2 0010", "hops 2 0 1 = -3");
    S.holds("26: UNKNOWN ahead of STATE",
        "is 0 " + BOW, "hops 0 0 4 = -1", "hops 0 -1 0 = -1", "is 1 00", "hops 1 0 1 = -1");
  }
}
