/** The sentences of promises 1 to 11 that name a boundary, each with rows of its own. */
public final class FieldsBoundsTest {
  private static final Due D = new Due("FieldsBoundsTest");
  private static final Sentences S = new Sentences(D);
  private static final String TEN = "00102030405060708090";

  public static void main(String[] args) {
    promise1();
    promise2();
    promise2Full();
    promise3();
    promise4();
    promise5();
    promise6();
    promise7();
    promise8();
    promise8Refused();
    promise9();
    promise10();
    promise11();
    promise11Refused();
    D.end();
  }

  private static void promise1() {
    S.holds("1: FIELDS without CORNERS",
        "count 1 = 0", "count 2 = 0",
        "told 0", "told 1", "told 2", "told 3",
        "sound 0 = 0", "sound 1 = 0", "sound 2 = 0", "sound 3 = 0",
        "put 0 1 0 0 = -1", "put 3 1 0 0 = -1",
        "put 0 0 0 0 = 1", "put 3 0 0 0 = 1");
    S.holds("1: and an empty text, and nothing kept",
        "count 0 = 0", "fault = 0", "field 0 = -3", "again 0 = -3", "again 1 = -3", "wipe = 0");
  }

  private static void promise2() {
    S.holds("2: n bytes (1 to 8)",
        "write 1 0 = 1", "write 8 0 = 9",
        "write 0 0 = -2", "write 9 0 = -2", "write -1 0 = -2", "write MIN 0 = -2",
        "write MAX 0 = -2", "count 0 = 9");
    S.holds("2: of v, the lowest n: of all eight",
        "write 8 0x3066316532643363 = 8", "field 0 = 4", "told 0 0f1e2d3c");
    S.holds("2: of seven, of one",
        "write 7 0xff30663165326433 = 7", "write 1 0xffffffffffffff63 = 8",
        "field 0 = 4", "told 0 0f1e2d3c");
    S.holds("2: the highest of these first: below 0, the very highest bit",
        "write 8 -1 = 8", "fault = 0", "wipe = 8",
        "write 8 0x8030303030303030 = 8", "fault = 0", "wipe = 8",
        "write 7 0x8030313032303330 = 7", "fault = 7", "wipe = 7",
        "write 2 0x3067 = 2", "fault = 1", "wipe = 2",
        "write 2 0x6730 = 2", "fault = 0");
    S.holds("2: come behind THE TEXT",
        "write 2 0x3030 = 2", "write 2 0x3130 = 4", "write 2 0x3031 = 6", "field 0 = 3",
        "told 0 001001");
    S.holds("2: OUTSIDE: the text goes on as if nothing had been",
        "write 4 0x30303130 = 4", "write 0 0x67 = -2", "write 9 0x67 = -2",
        "write 2 0x3031 = 6", "field 0 = 3", "told 0 001001");
  }

  private static void promise2Full() {
    S.holds("2: FULL: it would be longer than 24: from 16 on eight are fine",
        "write 8 0 = 8", "write 8 0 = 16", "write 8 0 = 24", "write 1 0 = -4", "write 8 0 = -4");
    S.holds("2: from 17 on seven",
        "write 8 0 = 8", "write 8 0 = 16", "write 1 0 = 17", "write 8 0 = -4", "write 7 0 = 24");
    S.holds("2: from 23 on one",
        "write 8 0 = 8", "write 8 0 = 16", "write 7 0 = 23", "write 2 0 = -4", "write 1 0 = 24",
        "write 1 0 = -4");
    S.holds("2: (nothing comes): no byte of those for which there was room",
        "text 00102030405060708", "write 8 0x6767676767676767 = -4", "count 0 = 17",
        "fault = 17", "write 1 0x30 = 18", "field 0 = 9", "told 0 001020304050607080");
    S.holds("2: (nothing comes) behind a whole field",
        "text " + TEN, "write 5 0x3030303030 = -4", "count 0 = 20", "fault = -9", "field 0 = 10",
        "told 0 " + TEN, "write 4 0x30303030 = 24", "fault = 20");
    S.holds("2: OUTSIDE ahead of FULL",
        "write 8 0 = 8", "write 8 0 = 16", "write 8 0 = 24",
        "write 0 0 = -2", "write 9 0 = -2", "write MIN 0 = -2", "write MAX 0 = -2",
        "write 1 0 = -4");
  }

  private static void promise3() {
    S.holds("3: THE TEXT is empty: how long it was: 0, 1, 24",
        "wipe = 0", "write 1 0 = 1", "wipe = 1", "wipe = 0",
        "write 8 0 = 8", "write 8 0 = 16", "write 8 0 = 24", "wipe = 24",
        "count 0 = 0", "fault = 0", "field 0 = -3");
    S.holds("3: there is room again for all 24, and no byte is left of the old ones",
        "write 8 -1 = 8", "write 8 -1 = 16", "write 8 -1 = 24", "wipe = 24",
        "write 6 0x303031303031 = 6", "fault = -9", "field 0 = 3", "told 0 001001",
        "write 8 0 = 14", "write 8 0 = 22", "write 2 0 = 24", "write 1 0 = -4");
    S.holds("3: FIELDS and SLOTS stay",
        "text 001001", "field 0 = 3", "keep 0 = 3", "wipe = 6", "told 0 001001",
        "turn 0 1 = 3", "wipe = 0", "again 0 = 3", "told 0 001001");
  }

  private static void promise4() {
    S.holds("4: FAULT of the empty text", "fault = 0");
    S.holds("4: at the first place, at the last one of the full text", "text g", "fault = 0",
        "text " + TEN + "gggg", "count 0 = 24", "fault = 20");
    S.holds("4: NONE", "text 001001", "fault = -9", "text " + TEN, "fault = -9");
    S.holds("4: asked again, it is the same", "text 001g", "fault = 3", "fault = 3");
  }

  private static void promise5() {
    S.holds("5: THE TEXT is a FIELD: how many CORNERS: 3, 10",
        "text 001001", "field 0 = 3", "told 0 001001",
        "text " + TEN, "field 3 = 10", "told 3 " + TEN);
    S.holds("5: three where ten have been: the others are gone",
        "text " + TEN, "field 1 = 10", "text 001001", "field 1 = 3", "told 1 001001",
        "corner 1 3 0 = -1", "count 1 = 3");
    S.holds("5: THE TEXT stays: told twice, and longer",
        "text 001001", "field 0 = 3", "field 1 = 3", "write 2 0x3232 = 8", "field 2 = 4",
        "told 0 001001", "told 1 001001", "told 2 00100122");
    S.holds("5: UNKNOWN: also if there is a FAULT",
        "text 001001", "field -1 = -1", "field 4 = -1", "field MIN = -1", "field MAX = -1",
        "text 0010", "field -1 = -1", "field 4 = -1");
    S.holds("5: STATE: a FAULT: empty, too short, too long, a sign, two alike",
        "is 0 001001",
        "field 0 = -3", "text 0010", "field 0 = -3", "text 00102", "field 0 = -3",
        "text " + TEN + "a", "field 0 = -3", "text " + TEN + "a0", "field 0 = -3",
        "text 00100g", "field 0 = -3", "text 001010", "field 0 = -3", "told 0 001001");
  }

  private static void promise6() {
    S.holds("6: x (what = 0), y (1) of a CORNER: the first, the last of ten",
        "is 2 0f102030405060708f90",
        "corner 2 0 0 = 0", "corner 2 0 1 = 15", "corner 2 9 0 = 9", "corner 2 9 1 = 0",
        "corner 2 8 1 = 15");
    S.holds("6: UNKNOWN: also a CORNER that there is not",
        "is 2 001001", "corner 2 2 0 = 0", "corner 2 3 0 = -1", "corner 2 -1 0 = -1",
        "corner 2 10 0 = -1", "corner 2 MIN 0 = -1", "corner 2 MAX 0 = -1",
        "corner 0 0 0 = -1", "corner -1 0 0 = -1", "corner 4 0 0 = -1", "corner MIN 0 0 = -1",
        "corner MAX 0 0 = -1");
    S.holds("6: a CORNER that was taken out is not there",
        "is 2 00100111", "take 2 0 = 3", "corner 2 3 0 = -1", "corner 2 2 0 = 1");
    S.holds("6: OUTSIDE",
        "is 2 001001", "corner 2 0 -1 = -2", "corner 2 0 2 = -2", "corner 2 0 MIN = -2",
        "corner 2 0 MAX = -2");
    S.holds("6: UNKNOWN ahead of OUTSIDE",
        "is 2 001001", "corner 4 0 2 = -1", "corner 2 3 2 = -1", "corner 0 0 -1 = -1");
  }

  private static void promise7() {
    S.holds("7: A CORNER is moved: the first, the last of ten, the only one",
        "is 0 " + TEN, "move 0 0 0 15 = 1", "move 0 9 15 15 = 1",
        "told 0 0f1020304050607080ff",
        "is 1 00", "move 1 0 15 0 = 1", "told 1 f0");
    S.holds("7: UNKNOWN",
        "is 0 001001", "move 0 2 5 5 = 1", "move 0 3 6 6 = -1", "move 0 -1 6 6 = -1",
        "move 0 MIN 6 6 = -1", "move 0 MAX 6 6 = -1", "move 1 0 6 6 = -1",
        "move 4 0 6 6 = -1", "move -1 0 6 6 = -1");
    S.holds("7: OUTSIDE: x, y",
        "is 0 112112",
        "move 0 0 0 0 = 1", "move 0 0 15 15 = 1",
        "move 0 0 -1 0 = -2", "move 0 0 0 -1 = -2", "move 0 0 16 0 = -2", "move 0 0 0 16 = -2",
        "move 0 0 MIN 0 = -2", "move 0 0 0 MAX = -2", "told 0 ff2112");
    S.holds("7: STATE: another CORNER is there: the next one, the last one, the first one",
        "is 0 " + TEN,
        "move 0 0 1 0 = -3", "move 0 0 9 0 = -3", "move 0 9 0 0 = -3", "move 0 9 8 0 = -3",
        "told 0 " + TEN);
    S.holds("7: a CORNER of another FIELD is none of its own",
        "is 0 001001", "is 1 552332", "move 0 0 5 5 = 1", "told 0 551001");
    S.holds("7: 1 if that changed it, 0",
        "is 0 001001",
        "move 0 0 0 0 = 0", "move 0 2 0 1 = 0", "told 0 001001",
        "move 0 2 0 2 = 1", "move 0 2 0 2 = 0", "told 0 001002");
    S.holds("7: UNKNOWN ahead of OUTSIDE and of STATE",
        "is 0 001001", "move 4 0 16 0 = -1", "move 0 3 16 0 = -1", "move 0 3 0 0 = -1",
        "move 4 0 0 0 = -1");
  }

  private static void promise8() {
    S.holds("8: put in ahead of one: ahead of the first, of the last",
        "is 0 102030", "put 0 0 0 0 = 4", "told 0 00102030", "put 0 3 9 9 = 5",
        "told 0 0010209930");
    S.holds("8: (at = how many there are: behind the last)",
        "is 0 102030", "put 0 3 9 9 = 4", "told 0 10203099",
        "put 1 0 9 9 = 1", "told 1 99", "put 1 1 8 8 = 2", "told 1 9988");
    S.holds("8: UNKNOWN: field, at",
        "is 0 102030",
        "put 0 4 9 9 = -1", "put 0 -1 9 9 = -1", "put 0 MIN 9 9 = -1", "put 0 MAX 9 9 = -1",
        "put 1 1 9 9 = -1", "put -1 0 9 9 = -1", "put 4 0 9 9 = -1", "put MIN 0 9 9 = -1",
        "put MAX 0 9 9 = -1", "told 0 102030");
    S.holds("8: OUTSIDE: x, y",
        "is 0 102030",
        "put 0 0 -1 9 = -2", "put 0 0 9 -1 = -2", "put 0 0 16 9 = -2", "put 0 0 9 16 = -2",
        "put 0 0 MIN 9 = -2", "put 0 0 9 MAX = -2", "told 0 102030",
        "put 0 0 0 15 = 4", "put 0 0 15 0 = 5", "told 0 f00f102030");
    S.holds("8: STATE: a CORNER is there: the first, the last one",
        "is 0 102030", "put 0 1 1 0 = -3", "put 0 0 1 0 = -3", "put 0 3 3 0 = -3",
        "put 0 0 3 0 = -3", "told 0 102030", "put 1 0 1 0 = 1");
  }

  private static void promise8Refused() {
    S.holds("8: FULL: 10",
        "is 0 001020304050607080", "put 0 0 9 0 = 10", "put 0 0 9 9 = -4", "put 0 10 9 9 = -4",
        "put 0 5 9 9 = -4", "told 0 90001020304050607080");
    S.holds("8: FULL no longer, when one was taken out",
        "is 0 " + TEN, "put 0 10 9 9 = -4", "take 0 9 = 9", "put 0 9 9 9 = 10",
        "told 0 00102030405060708099");
    S.holds("8: UNKNOWN ahead of OUTSIDE, STATE, FULL",
        "is 0 " + TEN, "put 0 11 16 0 = -1", "put 0 11 0 0 = -1", "put 0 11 9 9 = -1",
        "put 0 -1 9 9 = -1", "put 4 0 16 0 = -1");
    S.holds("8: OUTSIDE ahead of FULL", "is 0 " + TEN, "put 0 0 16 9 = -2", "put 0 0 9 -1 = -2");
    S.holds("8: STATE ahead of FULL", "is 0 " + TEN, "put 0 0 9 0 = -3", "put 0 10 0 0 = -3");
  }

  private static void promise9() {
    S.holds("9: A CORNER is taken out: how many are left: the first, the last of ten",
        "is 0 " + TEN, "take 0 9 = 9", "told 0 001020304050607080", "take 0 0 = 8",
        "told 0 1020304050607080", "take 0 4 = 7", "told 0 10203040607080");
    S.holds("9: UNKNOWN",
        "is 0 00102030", "take 0 4 = -1", "take 0 -1 = -1", "take 0 MIN = -1", "take 0 MAX = -1",
        "take 1 0 = -1", "take 4 0 = -1", "take -1 0 = -1", "told 0 00102030");
    S.holds("9: STATE: there are 3 or fewer: 4, 3, 2, 1, none",
        "is 0 00102030", "take 0 3 = 3", "take 0 2 = -3", "take 0 0 = -3", "told 0 001020",
        "is 1 0010", "take 1 0 = -3", "take 1 1 = -3", "told 1 0010",
        "is 2 00", "take 2 0 = -3", "told 2 00",
        "take 3 0 = -1");
    S.holds("9: UNKNOWN ahead of STATE",
        "is 0 001020", "take 0 3 = -1", "take 0 -1 = -1", "take 4 0 = -1");
  }

  private static void promise10() {
    S.holds("10: TURNED (an empty one, too): how many CORNERS",
        "turn 0 0 = 0", "turn 3 7 = 0", "told 0", "told 3",
        "is 0 0f", "turn 0 1 = 1", "told 0 00",
        "is 1 " + TEN, "turn 1 2 = 10", "told 1 ffefdfcfbfaf9f8f7f6f");
    S.holds("10: by 0 it stays, by 4 it is only mirrored",
        "is 0 0010f3", "turn 0 0 = 3", "told 0 0010f3", "turn 0 4 = 3", "told 0 f0e003");
    S.holds("10: CORNERS keep their numbers",
        "is 0 00f0ff", "turn 0 1 = 3", "told 0 f0ff0f", "turn 0 3 = 3", "told 0 00f0ff");
    S.holds("10: UNKNOWN", "turn -1 0 = -1", "turn 4 0 = -1", "turn MIN 0 = -1",
        "turn MAX 0 = -1");
    S.holds("10: OUTSIDE: also of an empty one",
        "is 0 0010f3", "turn 0 -1 = -2", "turn 0 8 = -2", "turn 0 MIN = -2", "turn 0 MAX = -2",
        "turn 1 -1 = -2", "turn 1 8 = -2", "turn 0 7 = 3");
    S.holds("10: UNKNOWN ahead of OUTSIDE", "turn 4 8 = -1", "turn -1 -1 = -1");
  }

  private static void promise11() {
    S.holds("11: SHIFTED: how many CORNERS: none, one, ten",
        "shift 0 15 -15 = 0", "told 0",
        "is 1 0f", "shift 1 15 -15 = 1", "told 1 f0", "shift 1 -15 15 = 1", "told 1 0f",
        "is 2 " + TEN, "shift 2 6 15 = 10", "told 2 6f7f8f9fafbfcfdfefff");
    S.holds("11: by 0 it stays", "is 0 00f00f", "shift 0 0 0 = 3", "told 0 00f00f");
    S.holds("11: it need not be SOUND", "is 0 00444004", "shift 0 11 11 = 4", "told 0 bbfffbbf");
  }

  private static void promise11Refused() {
    S.holds("11: UNKNOWN", "shift -1 0 0 = -1", "shift 4 0 0 = -1", "shift MIN 0 0 = -1",
        "shift MAX 0 0 = -1");
    S.holds("11: OUTSIDE: x, y: also of an empty one",
        "is 0 77", "shift 0 16 0 = -2", "shift 0 -16 0 = -2", "shift 0 0 16 = -2",
        "shift 0 0 -16 = -2", "shift 0 MIN 0 = -2", "shift 0 0 MAX = -2",
        "shift 1 16 0 = -2", "shift 1 0 -16 = -2", "shift 0 15 0 = -3", "shift 0 0 -15 = -3");
    S.holds("11: STATE: some CORNER would be on no DOT: at each edge",
        "is 0 0077ff", "shift 0 1 0 = -3", "shift 0 -1 0 = -3", "shift 0 0 1 = -3",
        "shift 0 0 -1 = -3", "told 0 0077ff",
        "is 1 112233", "shift 1 -1 -1 = 3", "told 1 001122", "shift 1 13 13 = 3",
        "told 1 ddeeff");
    S.holds("11: STATE: only the first, only the last of ten: none of them is shifted",
        "is 0 05152535455565758595", "shift 0 -1 0 = -3", "shift 0 6 0 = 10",
        "told 0 65758595a5b5c5d5e5f5", "shift 0 1 0 = -3", "told 0 65758595a5b5c5d5e5f5",
        "is 1 0f1020304050607080f0", "shift 1 0 1 = -3", "shift 1 0 -1 = -3");
    S.holds("11: UNKNOWN ahead of OUTSIDE, OUTSIDE ahead of STATE",
        "is 0 0077ff", "shift 4 16 0 = -1", "shift -1 0 -16 = -1", "shift 0 16 0 = -2",
        "shift 0 1 16 = -2", "shift 0 -16 1 = -2");
  }
}
