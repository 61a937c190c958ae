/** The sentences of promises 27 to 32 that name a boundary, each with rows of its own. */
public final class TwoBoundsTest {
  private static final Due D = new Due("TwoBoundsTest");
  private static final Sentences S = new Sentences(D);
  private static final String BOW = "00444004";
  private static final String TEN = "00e0a172534436291d1e";

  public static void main(String[] args) {
    promise27();
    promise28();
    refusedOfTwo();
    promise29();
    promise30();
    promise31();
    promise31Refused();
    promise32();
    D.end();
  }

  private static void promise27() {
    S.holds("27: ALIKE: 1, 0: one with itself, of 3 and of 10 CORNERS",
        "is 0 001001", "alike 0 0 = 1", "is 1 " + TEN, "alike 1 1 = 1", "alike 0 1 = 0",
        "alike 1 0 = 0");
    S.holds("27: ten CORNERS, turned, shifted, told from the last one on, the other way",
        "is 0 " + TEN, "is 1 " + TEN, "turn 1 5 = 10", "alike 0 1 = 1",
        "is 2 1e00e0a172534436291d", "alike 0 2 = 1", "alike 1 2 = 1", "shift 2 1 1 = 10",
        "alike 0 2 = 1", "alike 1 2 = 1",
        "is 3 1e1d2936445372a1e000", "alike 0 3 = 1", "alike 3 2 = 1");
    S.holds("27: ten CORNERS, the last of them a DOT away",
        "is 0 " + TEN, "is 1 " + TEN, "move 1 9 1 15 = 1", "sound 1 = 1", "alike 0 1 = 0",
        "mirrored 0 1 = 0");
    S.holds("27: it changes with its FIELDS",
        "is 0 001001", "is 1 001002", "alike 0 1 = 0", "move 1 2 5 1 = 1", "alike 0 1 = 1");
  }

  private static void promise28() {
    S.holds("28: MIRRORED: 1, 0",
        "is 0 003012", "mirrored 0 0 = 0", "is 1 003012", "mirrored 0 1 = 0", "turn 1 3 = 3",
        "mirrored 0 1 = 0", "mirrored 1 0 = 0", "turn 1 4 = 3", "mirrored 0 1 = 1",
        "mirrored 1 0 = 1", "mirrored 1 1 = 0");
    S.holds("28: both kinds of map do it",
        "is 0 00404404", "mirrored 0 0 = 1", "alike 0 0 = 1");
    S.holds("28: not ALIKE, not MIRRORED",
        "is 0 003012", "is 1 00404404", "mirrored 0 1 = 0", "is 2 002002", "mirrored 0 2 = 0");
    S.holds("28: ten CORNERS, that one half of them mirrors in the other",
        // x and y changed about: from (f, 0) to (0, f), not from (e, 0) to (1, e)
        "is 0 00f0b182635536281b0f", "mirrored 0 0 = 1", "is 1 " + TEN, "mirrored 1 1 = 0");
  }

  private static void refusedOfTwo() {
    for (String call : new String[] {"alike", "mirrored", "common"}) {
      S.holds(call + ": UNKNOWN: the one, the other one, both",
          "is 0 001001", call + " 4 0 = -1", call + " -1 0 = -1", call + " 0 4 = -1",
          call + " 0 -1 = -1", call + " 4 4 = -1", call + " MIN 0 = -1", call + " 0 MAX = -1");
      S.holds(call + ": STATE: one is not SOUND: the one, the other one, both",
          "is 0 001001", "is 1 " + BOW, call + " 0 1 = -3", call + " 1 0 = -3",
          call + " 1 1 = -3", call + " 0 2 = -3", call + " 2 0 = -3", call + " 2 2 = -3",
          "is 3 00", call + " 0 3 = -3", call + " 3 0 = -3");
      S.holds(call + ": UNKNOWN ahead of STATE",
          "is 1 " + BOW, call + " 4 1 = -1", call + " 1 4 = -1", call + " -1 0 = -1",
          call + " 0 -1 = -1");
    }
  }

  private static void promise29() {
    S.holds("29: How many DOTS are within or on FENCES of both: all, none, those of one",
        "is 0 00f0ff0f", "common 0 0 = 256", "is 1 00f0ff0f", "common 0 1 = 256",
        "is 2 007007", "is 3 ff8ff8", "common 2 3 = 0", "common 3 2 = 0",
        "common 0 2 = 36", "common 3 0 = 36", "shift 2 4 4 = 3", "shift 3 -4 -4 = 3",
        "common 2 3 = 8");
    S.holds("29: one CORNER of both, one FENCE of both",
        "is 0 007007", "is 1 70e077", "common 0 1 = 1", "is 2 70ff07", "common 0 2 = 8",
        "is 3 71ff17", "common 0 3 = 0");
    S.holds("29: DOTS at all four edges",
        "is 0 00f0ff0f", "is 1 70f78f08", "common 0 1 = 116");
  }

  private static void promise30() {
    S.holds("30: They are kept: CORNERS of all FIELDS: none, 40",
        "keep 0 = 0", "keep 1 = 0",
        "is 0 00102030405060708090", "is 1 00102030405060708090", "is 2 00102030405060708090",
        "is 3 00102030405060708090", "keep 0 = 40", "again 1 = 0", "count 1 = 0", "told 0",
        "told 3", "again 0 = 40", "told 0 00102030405060708090",
        "told 3 00102030405060708090");
    S.holds("30: kept anew, the old ones are gone",
        "is 0 001001", "keep 0 = 3", "put 0 3 9 9 = 4", "keep 0 = 4", "take 0 0 = 3",
        "again 0 = 4", "told 0 00100199");
    S.holds("30: FIELDS stay as they are", "is 0 001001", "keep 0 = 3", "told 0 001001",
        "count 1 = 3");
    S.holds("30: UNKNOWN", "keep -1 = -1", "keep 2 = -1", "keep MIN = -1", "keep MAX = -1",
        "again 0 = -3", "again 1 = -3");
  }

  private static void promise31() {
    S.holds("31: They are as they were kept, however often, and gone on from",
        "is 0 001001", "is 3 00404404", "keep 1 = 7", "hull 1 3 = 4", "take 3 0 = 3",
        "move 0 0 7 7 = 1", "again 1 = 7", "told 0 001001", "told 1", "told 2",
        "told 3 00404404", "turn 3 1 = 4", "shift 0 1 1 = 3", "again 1 = 7", "told 0 001001",
        "told 3 00404404");
    S.holds("31: a FIELD that was empty is so again",
        "keep 0 = 0", "text 001001", "field 0 = 3", "field 3 = 3", "again 0 = 0", "told 0",
        "told 3", "sound 0 = 0", "count 0 = 6");
    S.holds("31: SLOTS are two, neither is the other one",
        "is 0 00", "keep 0 = 1", "move 0 0 1 1 = 1", "keep 1 = 1", "move 0 0 2 2 = 1",
        "again 0 = 1", "told 0 00", "again 1 = 1", "told 0 11", "again 0 = 1", "told 0 00");
  }

  private static void promise31Refused() {
    S.holds("31: UNKNOWN", "keep 0 = 0", "keep 1 = 0", "again -1 = -1", "again 2 = -1",
        "again MIN = -1", "again MAX = -1");
    S.holds("31: STATE: none were kept: in neither, in the other one",
        "is 0 001001", "is 1 00404404", "is 2 00ff", "is 3 77", "again 0 = -3", "again 1 = -3",
        "told 0 001001", "told 3 77", "keep 1 = 10", "again 0 = -3", "again 1 = 10");
    S.holds("31: UNKNOWN ahead of STATE", "again -1 = -1", "again 2 = -1");
  }

  private static void promise32() {
    S.holds("32: 0 bytes of THE TEXT: none to 24",
        "count 0 = 0", "write 1 0 = 1", "count 0 = 1", "write 8 0 = 9", "write 8 0 = 17",
        "write 7 0 = 24", "count 0 = 24", "write 1 0 = -4", "count 0 = 24", "wipe = 24",
        "count 0 = 0");
    S.holds("32: 1 CORNERS of all FIELDS: none to 40",
        "count 1 = 0", "is 0 00", "count 1 = 1", "is 3 00102030405060708090", "count 1 = 11",
        "is 1 00102030405060708090", "is 2 00102030405060708090", "count 1 = 31",
        "put 0 0 1 0 = 2", "count 1 = 32");
    S.holds("32: 1 CORNERS of all FIELDS: 40",
        "is 0 00102030405060708090", "is 1 00102030405060708090", "is 2 00102030405060708090",
        "is 3 00102030405060708090", "count 1 = 40", "put 3 0 5 5 = -4", "count 1 = 40");
    S.holds("32: 2 FIELDS that are SOUND: none to 4",
        "count 2 = 0", "is 0 001001", "count 2 = 1", "is 3 001001", "count 2 = 2",
        "is 1 " + BOW, "count 2 = 2", "is 2 001001", "count 2 = 3", "hull 1 1 = 4",
        "count 2 = 4", "move 3 2 2 0 = 1", "count 2 = 3");
    S.holds("32: OUTSIDE", "count -1 = -2", "count 3 = -2", "count MIN = -2", "count MAX = -2");
  }
}
