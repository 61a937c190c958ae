/** The sentences of "Terms" that name a boundary, part by part, each with rows of its own. */
public final class TermsBoundsTest {
  private static final Due D = new Due("TermsBoundsTest");
  private static final Sentences S = new Sentences(D);

  public static void main(String[] args) {
    refusals();
    part1Dots();
    part1Text();
    part1Signs();
    part1NoTwoAlike();
    part1Fault();
    part1FaultAtItsEnd();
    part1Fields();
    part1Fences();
    part1Sound();
    part1AlongOneAnother();
    part1Area();
    part2DotsOfFields();
    part2SticksIn();
    part2Slants();
    part2Narrow();
    part2Grown();
    part2Hull();
    part3Sight();
    part3Strip();
    part3Cuts();
    part3First();
    part3Fair();
    part3Guards();
    part3Hops();
    part4Alike();
    part4Turned();
    part4Shifted();
    part4Slots();
    lastCalls();
    D.end();
  }

  private static void refusals() {
    D.due("UNKNOWN", FieldsByDots.UNKNOWN, -1);
    D.due("OUTSIDE", FieldsByDots.OUTSIDE, -2);
    D.due("STATE", FieldsByDots.STATE, -3);
    D.due("FULL", FieldsByDots.FULL, -4);
    D.due("NONE is -9", FieldsByDots.NONE, -9);
    S.holds("REFUSALS, of several the first that a call names (put names all four)",
        "is 0 00102030405060708090",
        "put 4 11 16 0 = -1",
        "put 0 11 16 0 = -1",
        "put 0 11 0 0 = -1",
        "put 0 11 15 15 = -1",
        "put 0 10 16 0 = -2",
        "put 0 10 0 0 = -3",
        "put 0 10 15 15 = -4");
    S.holds("What is refused changes nothing (a call of each kind of refusal)",
        "is 0 00102030405060708090",
        "is 1 001001",
        "text 001001",
        "keep 1 = 13",
        "move 0 10 5 5 = -1",
        "move 0 9 5 16 = -2",
        "move 0 9 0 0 = -3",
        "put 0 10 5 5 = -4",
        "told 0 00102030405060708090",
        "told 1 001001");
  }

  private static void part1Dots() {
    S.holds("DOTS have x and y, 0 to 15 each",
        "is 0 00f0ff0f",
        "where 0 0 0 = 0",
        "where 0 15 0 = 0",
        "where 0 0 15 = 0",
        "where 0 15 15 = 0",
        "where 0 14 14 = 1",
        "where 0 1 1 = 1",
        "where 0 -1 0 = -2",
        "where 0 0 -1 = -2",
        "where 0 16 15 = -2",
        "where 0 15 16 = -2",
        "put 1 0 0 15 = 1",
        "put 1 1 15 0 = 2",
        "put 1 2 16 0 = -2",
        "put 1 2 0 16 = -2",
        "put 1 2 -1 0 = -2",
        "put 1 2 0 -1 = -2",
        "told 1 0ff0");
  }

  private static void part1Text() {
    S.holds("THE TEXT is bytes (24 at most)",
        "write 8 0 = 8",
        "write 8 0 = 16",
        "write 7 0 = 23",
        "write 2 0 = -4",
        "write 1 0 = 24",
        "write 1 0 = -4",
        "count 0 = 24");
    S.holds("bytes: 0 and 255 are some, too",
        "write 1 0 = 1",
        "write 1 255 = 2",
        "write 1 256 = 3",
        "write 1 -1 = 4",
        "fault = 0");
    S.holds("A FIELD is a TEXT of 3 to 10 CORNERS: 2 are too few",
        "text 0010", "fault = 4", "field 0 = -3", "told 0");
    S.holds("3 CORNERS",
        "text 001020", "fault = -9", "field 0 = 3", "told 0 001020");
    S.holds("10 CORNERS",
        "text 00102030405060708090", "fault = -9", "field 0 = 10",
        "told 0 00102030405060708090");
    S.holds("11 CORNERS are too many",
        "text 00102030405060708090a0", "fault = 20", "field 0 = -3", "told 0");
    S.holds("12 CORNERS, the full text",
        "text 00102030405060708090a0b0", "count 0 = 24", "fault = 20", "field 0 = -3", "told 0");
  }

  private static void part1Signs() {
    // the first and last of the signs, and those next to them
    String good = "09af";
    String bad = "/:`gAF@G ";
    for (char sign : good.toCharArray()) {
      S.holds("two signs each (0 to 9, a to f): " + sign,
          "text 1" + sign + sign + "22" + sign,
          "fault = -9",
          "field 3 = 3",
          "told 3 1" + sign + sign + "22" + sign,
          "corner 3 0 1 = " + Character.digit(sign, 16),
          "corner 3 1 0 = " + Character.digit(sign, 16));
    }
    for (char sign : bad.toCharArray()) {
      S.holds("no sign is '" + sign + "' as x", "text " + sign + "01020", "fault = 0",
          "field 0 = -3");
      S.holds("no sign is '" + sign + "' as y", "text 0" + sign + "1020", "fault = 1",
          "field 0 = -3");
      S.holds("nor in the last corner's x", "text 0010" + sign + "0", "fault = 4", "field 0 = -3");
      S.holds("nor in the last corner's y", "text 00102" + sign, "fault = 5", "field 0 = -3");
    }
    for (int odd : new int[] {0, 1, 127, 128, 176, 255}) {
      S.holds("no sign is byte " + odd, "write 1 " + odd + " = 1", "fault = 0",
          "write 5 0x3030313030 = 6", "fault = 0", "field 0 = -3");
    }
  }

  private static void part1NoTwoAlike() {
    S.holds("no two alike: the second like the first", "text 0000", "fault = 3");
    S.holds("the third like the second", "text 001010", "fault = 5", "field 0 = -3");
    S.holds("the last one like the first", "text 00102030405060708000", "fault = 19",
        "field 0 = -3");
    S.holds("the last one like the one ahead of it", "text 00102030405060708080", "fault = 19",
        "field 0 = -3");
    S.holds("x of one that is told, y not yet", "text 00102030405060708", "fault = 17");
    S.holds("only x alike, only y alike", "text 000110", "fault = -9", "field 0 = 3");
    S.holds("x and y changed about are not alike", "text 0f12f021", "fault = -9", "field 0 = 4");
    S.holds("signs of two corners (12 in 0123) are none", "text 012312", "fault = -9",
        "field 0 = 3");
  }

  private static void part1Fault() {
    S.holds("the place of the first byte by which THE TEXT can be no FIELD",
        "text g", "fault = 0",
        "text 0g", "fault = 1",
        "text 00g", "fault = 2",
        "text 0010203040506070809g", "fault = 19",
        "text 0010203040506070g090", "fault = 16",
        "text g0g0g0", "fault = 0",
        "text 00001g", "fault = 3",
        "text 0g00001g", "fault = 1");
    S.holds("whatever came behind it",
        "text 001g", "fault = 3",
        "write 2 0x3230 = 6", "fault = 3",
        "write 8 0x3330343035303630 = 14", "fault = 3",
        "write 8 0x6767676767676767 = 22", "fault = 3",
        "write 2 0x3030 = 24", "fault = 3");
    S.holds("two alike, whatever came behind them",
        "text 0000", "fault = 3",
        "write 4 0x31303230 = 8", "fault = 3");
    S.holds("(its length set aside): of a TEXT too short, too long",
        "text 0g", "fault = 1",
        "text 00g0", "fault = 2",
        "text 0010203040506070809g", "fault = 19",
        "text 0010203040506070809ga0b0", "fault = 19",
        "text 0010203040506070g090a0b0", "fault = 16",
        "text 000010203040506070809000", "fault = 3");
    S.holds("by a byte behind ten CORNERS there can be no FIELD",
        "text 00102030405060708090", "fault = -9",
        "write 1 0x61 = 21", "fault = 20",
        "write 1 0x30 = 22", "fault = 20",
        "write 2 0 = 24", "fault = 20",
        "text 00102030405060708090g", "fault = 20",
        "text 0010203040506070809000", "fault = 20");
    S.holds("NONE: none", "text 001020", "fault = -9", "text 0f1e2d3c4b5a69788796", "fault = -9");
  }

  private static void part1FaultAtItsEnd() {
    String ten = "00102030405060708090";
    for (int length = 0; length <= 20; length++) {
      boolean whole = length >= 6 && length % 2 == 0;
      S.holds("its length, if it is only not at its end",
          ("text " + ten.substring(0, length)).trim(),
          "count 0 = " + length,
          "fault = " + (whole ? -9 : length),
          "field 0 = " + (whole ? length / 2 : -3));
    }
  }

  private static void part1Fields() {
    S.holds("FIELDS 0 to 3 (empty at first: no CORNERS)",
        "count 1 = 0",
        "corner 0 0 0 = -1", "corner 1 0 0 = -1", "corner 2 0 0 = -1", "corner 3 0 0 = -1",
        "turn 0 0 = 0", "turn 1 0 = 0", "turn 2 0 = 0", "turn 3 0 = 0",
        "turn -1 0 = -1", "turn 4 0 = -1", "turn MIN 0 = -1", "turn MAX 0 = -1");
    S.holds("FIELDS 0 to 3 are four, none of them another one",
        "put 0 0 0 0 = 1", "put 1 0 1 0 = 1", "put 2 0 2 0 = 1", "put 3 0 3 0 = 1",
        "put 4 0 4 0 = -1", "put -1 0 4 0 = -1",
        "told 0 00", "told 1 10", "told 2 20", "told 3 30");
    S.holds("CORNERS of a FIELD are 0, 1, .. as told",
        "text 0f1e2d3c4b5a69788796", "field 2 = 10",
        "corner 2 0 0 = 0", "corner 2 0 1 = 15",
        "corner 2 1 0 = 1", "corner 2 1 1 = 14",
        "corner 2 9 0 = 9", "corner 2 9 1 = 6",
        "corner 2 10 0 = -1", "corner 2 -1 0 = -1");
  }

  private static void part1Fences() {
    S.holds("FENCES go from each CORNER to the next one (from the last to the first)",
        // fences of 6, 2 and 2 steps, the last one from (0, 2) to (0, 0)
        "is 0 006002",
        "where 0 3 0 = 0", "where 0 3 1 = 0", "where 0 0 1 = 0",
        "about 0 2 = 10", "about 0 0 = 12", "about 0 3 = 2");
    S.holds("the last FENCE crosses another one",
        "is 0 00400444", "sound 0 = 0");
    S.holds("the last FENCE has a CORNER of others on it",
        "is 0 0005204540", "sound 0 = 0",
        "is 1 0005214540", "sound 1 = 1");
    S.holds("the last FENCE lies along the first one",
        "is 0 00402320", "sound 0 = 0");
    S.holds("there is no FENCE from the last but one to the first",
        "is 0 00404404", "where 0 2 2 = 1");
  }

  private static void part1Sound() {
    S.holds("no FENCE has a DOT in common with another one", "is 0 00444004", "sound 0 = 0");
    S.holds("nor a point that is no DOT", "is 0 00111001", "sound 0 = 0",
        "is 1 00fefd01", "sound 1 = 0",
        "is 2 00fdfe01", "sound 2 = 1",
        "is 3 00ff0ef1", "sound 3 = 0");
    S.holds("a CORNER on a FENCE of others: the last one, the first one, one between",
        "is 0 00404420", "sound 0 = 0",
        "is 1 2004004044", "sound 1 = 0",
        "is 2 0060661046", "sound 2 = 0");
    S.holds("one DOT beside that FENCE is fine",
        "is 0 00404421", "sound 0 = 1",
        "is 1 2104004044", "sound 1 = 1",
        "is 2 0060661146", "sound 2 = 1");
    S.holds("but for the CORNER where one begins that the other one ends at",
        "is 0 001001", "sound 0 = 1",
        "is 1 00102030405060708001", "sound 1 = 1",
        "is 2 5080b2d5d8bb8d5d2b08", "sound 2 = 1");
    S.holds("FENCES in one line, one behind another, and apart",
        "is 0 0010200f", "sound 0 = 1",
        "is 1 0090936362323303", "sound 1 = 1");
    S.holds("An empty one is not SOUND", "sound 0 = 0", "sound 3 = 0", "count 2 = 0");
    S.holds("nor is one of 1 or 2 CORNERS: FENCES lie along one another",
        "is 0 00", "sound 0 = 0", "is 1 00ff", "sound 1 = 0", "count 2 = 0");
  }

  private static void part1AlongOneAnother() {
    S.holds("(Two FENCES at one CORNER may not lie along one another.) At the first",
        "is 0 00202340", "sound 0 = 0", "is 1 00402320", "sound 1 = 0");
    S.holds("at one between",
        "is 0 40002023", "sound 0 = 0", "is 1 20004023", "sound 1 = 0");
    S.holds("at the last one",
        "is 0 40232000", "sound 0 = 0", "is 1 20234000", "sound 1 = 0");
    S.holds("all three in one line, in each order",
        "is 0 001122", "sound 0 = 0", "is 1 002211", "sound 1 = 0", "is 2 110022", "sound 2 = 0");
    S.holds("straight on is not along",
        "is 0 00204023", "sound 0 = 1", "is 1 20402300", "sound 1 = 1",
        "is 2 40230020", "sound 2 = 1");
  }

  private static void part1Area() {
    S.holds("AREA: twice what it encloses: the least, the greatest",
        "is 0 001001", "about 0 0 = 1",
        "is 1 00f0ff0f", "about 1 0 = 450",
        "is 2 00fffe", "about 2 0 = 15");
    S.holds("It goes to the LEFT (1), else to the right (0)",
        "is 0 001001", "about 0 1 = 1", "about 0 0 = 1",
        "is 1 000110", "about 1 1 = 0", "about 1 0 = 1",
        "is 2 00f0ff0f", "about 2 1 = 1", "turn 2 3 = 4", "about 2 1 = 1",
        "turn 2 4 = 4", "about 2 1 = 0", "about 2 0 = 450");
    S.holds("to the LEFT, also where the first CORNER STICKS IN, or is FLAT",
        "is 0 222404004042", "about 0 1 = 1", "turn 0 7 = 6", "about 0 1 = 0", "about 0 0 = 24",
        "is 1 20402300", "about 1 1 = 1", "turn 1 5 = 4", "about 1 1 = 0");
  }

  private static void part2DotsOfFields() {
    S.holds("DOTS on FENCES: the fewest, the most of four CORNERS",
        "is 0 001001", "about 0 2 = 3", "is 1 00f0ff0f", "about 1 2 = 60");
    S.holds("DOTS within: none, all but the edge",
        "is 0 001001", "about 0 3 = 0", "is 1 00f0ff0f", "about 1 3 = 196",
        "is 2 00f00f", "about 2 3 = 91",
        "is 3 00f1fe", "about 3 3 = 91");
    S.holds("DOTS on FENCES, DOTS within, of one that goes to the right",
        "is 0 000110", "about 0 2 = 3", "about 0 3 = 0",
        "is 1 0ffff000", "about 1 2 = 60", "about 1 3 = 196");
  }

  private static void part2SticksIn() {
    S.holds("STICKS IN, if more than half round; FLAT, if just half round",
        // beside the line from (0, 0) to (f, f): a DOT below, on it, above
        "is 0 00f0ff87", "how 0 3 = 2", "about 0 4 = 1", "about 0 5 = 0",
        "is 1 00f0ff88", "how 1 3 = 1", "about 1 4 = 0", "about 1 5 = 1",
        "is 2 00f0ff78", "how 2 3 = 0", "about 2 4 = 0", "about 2 5 = 0");
    S.holds("the same, by less than a DOT: (8, 7) and (7, 7) by the line to (f, e)",
        "is 0 00f0fe87", "how 0 3 = 2", "is 1 00f0fe77", "how 1 3 = 0");
    S.holds("the same at the first CORNER",
        "is 0 8700f0ff", "how 0 0 = 2", "is 1 8800f0ff", "how 1 0 = 1",
        "is 2 7800f0ff", "how 2 0 = 0");
    S.holds("the first CORNER counts among those that STICK IN, that are FLAT; the last, too",
        "is 0 8700f0ff", "about 0 4 = 1", "is 1 8800f0ff", "about 1 5 = 1",
        "is 2 00f0ff87", "about 2 4 = 1", "is 3 00f0ff88", "about 3 5 = 1");
    S.holds("the same, to the right",
        "is 0 87fff000", "how 0 0 = 2", "is 1 88fff000", "how 1 0 = 1",
        "is 2 78fff000", "how 2 0 = 0");
  }

  private static void part2Slants() {
    S.holds("SLANT (a, b; -9 to 9 each, not both 0)",
        "is 0 00f0ff0f",
        "wide 0 9 9 = 270", "wide 0 -9 -9 = 270", "wide 0 9 -9 = 270", "wide 0 -9 9 = 270",
        "wide 0 9 0 = 135", "wide 0 0 -9 = 135",
        "wide 0 10 9 = -2", "wide 0 -10 9 = -2", "wide 0 9 10 = -2", "wide 0 9 -10 = -2",
        "wide 0 0 0 = -2", "wide 0 0 1 = 15", "wide 0 1 0 = 15");
    S.holds("the greatest of its CORNERS less the least: of the first, of the last one",
        "is 0 ff0110", "wide 0 1 1 = 29",
        "is 1 0110ff", "wide 1 1 1 = 29",
        "is 2 0f", "wide 2 9 9 = 0",
        "is 3 0ff0", "wide 3 1 1 = 0", "wide 3 9 -9 = 270");
  }

  private static void part2Narrow() {
    S.holds("NARROW: with no common divisor but 1, of like ones the least a (0 at least)",
        "is 0 0ff0", "narrow 0 0 = 0", "narrow 0 1 = 1", "narrow 0 2 = 101",
        // by (0, -9) it were 0, too
        "is 1 0fff", "narrow 1 0 = 0", "narrow 1 1 = 0", "narrow 1 2 = 99",
        "is 2 77", "narrow 2 0 = 0", "narrow 2 1 = 0", "narrow 2 2 = 99",
        // by (-9, 0) and (9, 0) it were 0, too
        "is 3 707f", "narrow 3 0 = 0", "narrow 3 1 = 1", "narrow 3 2 = 100");
    S.holds("then the least b",
        "is 0 113234", "narrow 0 0 = 2", "narrow 0 1 = 1", "narrow 0 2 = 99",
        "wide 0 1 0 = 2", "wide 0 1 -1 = 2",
        "is 1 00f0ff0f", "narrow 1 0 = 15", "narrow 1 1 = 0", "narrow 1 2 = 99");
    S.holds("by all SLANTS, up to 9 and -9",
        "is 0 0089", "narrow 0 0 = 0", "narrow 0 1 = 9", "narrow 0 2 = 92",
        "is 1 0098", "narrow 1 0 = 0", "narrow 1 1 = 8", "narrow 1 2 = 91",
        "is 2 0980", "narrow 2 0 = 0", "narrow 2 1 = 9", "narrow 2 2 = 108",
        "is 3 0890", "narrow 3 0 = 0", "narrow 3 1 = 8", "narrow 3 2 = 109");
    S.holds("by none beyond: (10, -1) and (1, -10) would be 0",
        "is 0 001a", "narrow 0 0 = 1", "narrow 0 1 = 1", "narrow 0 2 = 100",
        "is 1 00a1", "narrow 1 0 = 1", "narrow 1 1 = 0", "narrow 1 2 = 99");
  }

  private static void part2Grown() {
    S.holds("GROWN t times (t 1 to 99)",
        "is 0 001001",
        "grown 0 1 = 3", "grown 0 2 = 6", "grown 0 98 = 4950", "grown 0 99 = 5050",
        "grown 0 0 = -2", "grown 0 100 = -2", "grown 0 -1 = -2",
        "is 1 00f0ff0f", "grown 1 1 = 256", "grown 1 99 = 2208196");
  }

  private static void part2Hull() {
    S.holds("HULL: no CORNERS that STICK IN and none that are FLAT",
        "is 0 0020404222240402", "hull 1 0 = 5", "told 1 0040422404",
        "about 1 4 = 0", "about 1 5 = 0");
    S.holds("the smallest FIELD: all CORNERS of a three-cornered one, of one with ten",
        "is 0 f00f00", "hull 1 0 = 3", "told 1 00f00f",
        "is 2 5080b2d5d8bb8d5d2b08", "hull 3 2 = 10", "told 3 085080b2d5d8bb8d5d2b");
    S.holds("three of ten CORNERS: the others are within, on FENCES",
        "is 0 00112233445566f077ff", "hull 0 0 = 3", "told 0 00f0ff");
    S.holds("from its least x, of these the least y, on, to the LEFT",
        "is 0 0ff0ff00", "hull 0 0 = 4", "told 0 00f0ff0f",
        "is 1 f70f8f", "hull 1 1 = 3", "told 1 0ff78f",
        "is 2 0501060382", "hull 2 2 = 3", "told 2 018206");
  }

  private static void part3Sight() {
    S.holds("all of the line is on FENCES: both ends of one, the last one too",
        "is 0 0060664642222606",
        "sees 0 0 1 = 1", "sees 0 1 0 = 1", "sees 0 7 0 = 1", "sees 0 0 7 = 1");
    S.holds("some of it is beyond",
        "is 0 0060664642222606",
        "sees 0 2 7 = 0", "sees 0 3 6 = 0", "sees 0 0 2 = 0", "sees 0 3 5 = 0");
    S.holds("by a CORNER that STICKS IN: just by it, and a DOT less",
        "is 0 004042222404", "sees 0 1 5 = 1", "strip 0 1 5 = 0", "sees 0 2 4 = 0",
        "is 1 005052222505", "sees 1 1 5 = 0", "strip 1 1 5 = 0",
        "is 2 003032222303", "sees 2 1 5 = 1", "strip 2 1 5 = 1");
    S.holds("by one that is the first CORNER, the last one",
        "is 0 222404004042", "sees 0 2 4 = 1", "strip 0 2 4 = 0",
        "is 1 240400404222", "sees 1 1 3 = 1", "strip 1 1 3 = 0",
        "is 2 242606006064", "sees 2 2 4 = 1", "strip 2 2 4 = 0",
        "is 3 260600606424", "sees 3 1 3 = 1", "strip 3 1 3 = 0");
    S.holds("beyond only at its beginning: over the first FENCE, over the last one",
        // from (8, 6) to (0, 8), over the fence from (6, 2) to (6, 8)
        "is 0 62680800a0a68682", "sees 0 6 2 = 0", "sees 0 2 6 = 0",
        "is 1 680800a0a6868262", "sees 1 5 1 = 0", "sees 1 1 5 = 0");
    S.holds("half of it beyond: by a CORNER in its midst, over a FENCE in its midst",
        "is 0 002022121102", "sees 0 5 2 = 0", "sees 0 5 3 = 0", "sees 0 3 2 = 1",
        "is 1 11211222323000", "sees 1 0 3 = 0", "sees 1 3 0 = 0");
    S.holds("along FENCES in one line, by FLAT CORNERS",
        "is 0 0010203040506070800f",
        "sees 0 0 8 = 1", "sees 0 8 0 = 1", "strip 0 0 8 = 0", "sees 0 1 7 = 1",
        "strip 0 1 7 = 0", "strip 0 1 9 = 1");
    S.holds("some of it on FENCES, some within, some on FENCES",
        // two steps upwards: along y = 2 from (0, 2) over (2, 2) to (4, 2)
        "is 0 004042222402", "sees 0 2 5 = 1", "strip 0 2 5 = 0", "sees 0 3 5 = 1",
        "strip 0 3 5 = 1");
  }

  private static void part3Strip() {
    S.holds("are not at one FENCE: also the last and the first",
        "is 0 00404404",
        "strip 0 0 1 = 0", "strip 0 1 0 = 0", "strip 0 3 0 = 0", "strip 0 0 3 = 0",
        "strip 0 0 2 = 1", "strip 0 3 1 = 1");
    S.holds("a three-cornered one has none",
        "is 0 004004", "about 0 6 = 0", "strip 0 0 1 = 0", "strip 0 0 2 = 0", "strip 0 1 2 = 0");
    S.holds("no CORNER lies on it otherwise",
        // (2, 2) sticks in, on the line from (4, 0) to (0, 4)
        "is 0 004042222404", "sees 0 1 5 = 1", "strip 0 1 5 = 0",
        // the same with a DOT more, and less
        "is 1 004042332404", "strip 1 1 5 = 1",
        "is 2 004042112404", "sees 2 1 5 = 0", "strip 2 1 5 = 0");
    S.holds("no CORNER lies on it otherwise: a tip from above, next to both",
        "is 0 00202123110301", "sees 0 2 6 = 1", "strip 0 2 6 = 0", "strip 0 2 4 = 1",
        "is 1 00202123120301", "sees 1 2 6 = 1", "strip 1 2 6 = 1");
    S.holds("no part of a FENCE lies on it otherwise",
        "is 0 00204004", "sees 0 0 2 = 1", "strip 0 0 2 = 0");
    S.holds("all pairs of ten CORNERS but those at FENCES",
        "is 0 5080b2d5d8bb8d5d2b08", "about 0 6 = 35");
  }

  private static void part3Cuts() {
    S.holds("as many as CORNERS less 3: of 3 the empty set, with the sum 0",
        "is 0 001001", "about 0 7 = 1", "about 0 8 = 0", "least 0 0 = -9");
    S.holds("of 4 one STRIP",
        "is 0 00404404", "about 0 7 = 2", "about 0 8 = 32", "least 0 0 = 2", "least 0 1 = -9",
        "is 1 00205004", "about 1 6 = 1", "about 1 7 = 1", "about 1 8 = 20", "least 1 0 = 13");
    S.holds("of 6, of 8: only sets of STRIPS",
        "is 0 004042222404", "about 0 6 = 5", "about 0 7 = 4", "about 0 8 = 24",
        "is 1 0060664642222606", "about 1 6 = 8", "about 1 7 = 8", "about 1 8 = 76");
    S.holds("of 10 seven STRIPS",
        "is 0 5080b2d5d8bb8d5d2b08", "about 0 7 = 1430", "least 0 7 = -9");
    S.holds("of 10 with but one way: all from the last CORNER",
        "is 0 0010203040506070800f", "about 0 6 = 7", "about 0 7 = 1",
        "least 0 0 = 19", "least 0 1 = 29", "least 0 5 = 69", "least 0 6 = 79", "least 0 7 = -9",
        // 225 each, and the squares of 1 to 7
        "about 0 8 = 1715");
    S.holds("LONG by: the squares of what x, y differ by, together: the longest STRIP",
        "is 0 00f0ff0f", "about 0 8 = 450",
        "is 1 00f1ffee", "about 1 6 = 1", "about 1 8 = 170");
  }

  private static void part3First() {
    S.holds("STRIPS told as 10 times the lesser CORNER and the greater one",
        "is 0 00404404", "least 0 0 = 2", "fair 0 = 2",
        "turn 0 1 = 4", "least 0 0 = 2");
    S.holds("THE FIRST of these, by its first STRIP: 02 ahead of 13",
        "is 0 04004044", "least 0 0 = 2", "is 1 40440400", "least 1 0 = 2");
    S.holds("by its first STRIP: 02 with 24 ahead of 03 with 13, 66 both",
        "is 0 4084563604", "about 0 8 = 66", "least 0 0 = 2", "least 0 1 = 24");
    S.holds("then the second ..: 02 with 03 or 24, which are 5 long both",
        "is 0 0220424505", "about 0 8 = 41", "least 0 0 = 2", "least 0 1 = 3", "least 0 2 = -9");
  }

  private static void part3Fair() {
    S.holds("FAIR: of like ones the least told",
        "is 0 00404404", "fair 0 = 2", "sides 0 0 2 = 0", "sides 0 1 3 = 0",
        "is 1 0060664642222606", "fair 1 = 4", "sides 1 0 4 = 8", "sides 1 1 5 = 8");
    S.holds("the AREAS at both its sides differ least: neither the first STRIP nor the last",
        "is 0 0010203040506070800f", "fair 0 = 49", "sides 0 4 9 = 0",
        "sides 0 3 9 = 30", "sides 0 5 9 = 30");
    S.holds("NONE: there is no STRIP", "is 0 001001", "fair 0 = -9",
        "is 1 000110", "fair 1 = -9");
  }

  private static void part3Guards() {
    S.holds("GUARDS: each CORNER is one of them or is seen by one: one is enough",
        "is 0 001001", "guards 0 = 1", "is 1 00404404", "guards 1 = 1",
        "is 2 5080b2d5d8bb8d5d2b08", "guards 2 = 1");
    S.holds("told as bits: only the last of ten, at (0, 0), sees the tips of a star",
        "is 0 f041e743cc347e140f00", "sound 0 = 1", "guards 0 = 512");
    S.holds("two, of as few the least number",
        "is 0 0060664642222606", "guards 0 = 3", "is 1 00f0ff0f04343cccc303", "guards 1 = 9");
    S.holds("three: each tip of a comb is seen by none but the two beside it",
        "is 0 00a0f0ffe2827f62120f", "guards 0 = 37");
  }

  private static void part3Hops() {
    S.holds("HOPS: to one that is seen 1",
        "is 0 0060664642222606", "hops 0 0 1 = 1", "hops 0 0 7 = 1", "hops 0 7 0 = 1",
        "hops 0 0 4 = 1");
    S.holds("from one end of a U to the other one 3",
        "is 0 0060664642222606", "hops 0 2 7 = 3", "hops 0 7 2 = 3", "hops 0 2 6 = 3",
        "hops 0 2 0 = 2");
    S.holds("along a way that bends three times, of ten CORNERS 4",
        "is 0 00f0ff0f04343cccc303", "hops 0 0 4 = 4", "hops 0 4 0 = 4", "hops 0 9 5 = 4",
        "hops 0 1 4 = 3", "hops 0 2 4 = 2", "hops 0 3 4 = 1", "hops 0 0 9 = 1");
  }

  private static void part4Alike() {
    S.holds("ALIKE are two SOUND FIELDS: one with itself",
        "is 0 001001", "alike 0 0 = 1", "is 1 006062323505", "alike 1 1 = 1",
        "mirrored 1 1 = 0");
    S.holds("a d less b c 1 or -1, not 0, 2 or -2",
        "is 0 002001", "is 1 001002", "alike 0 1 = 1", "mirrored 0 1 = 1",
        "is 2 002002", "alike 0 2 = 0", "is 3 001001", "alike 0 3 = 0", "alike 2 3 = 0");
    S.holds("all whole numbers: as large, as many DOTS, and yet not",
        "is 0 001027", "is 1 001037", "alike 0 1 = 0", "mirrored 0 1 = 0",
        "is 2 001047", "alike 0 2 = 1", "mirrored 0 2 = 1");
    S.holds("great whole numbers, from one edge to the other",
        "is 0 001001", "is 1 00f110", "alike 0 1 = 1", "mirrored 0 1 = 1",
        "is 2 00fe10", "alike 0 2 = 0",
        "is 3 00feed", "alike 0 3 = 1", "alike 3 0 = 1", "alike 3 1 = 1", "alike 3 2 = 0");
    S.holds("CORNERS onto CORNERS round and round (either way): from the last one on",
        "is 0 006062323505", "is 1 050060623235", "alike 0 1 = 1", "mirrored 0 1 = 0",
        "is 2 053532626000", "alike 0 2 = 1", "mirrored 0 2 = 0",
        // the same dots, but not round and round
        "is 3 006032623505", "sound 3 = 1", "alike 0 3 = 0");
    S.holds("CORNERS onto CORNERS: a FLAT one has none to go onto",
        "is 0 00404404", "is 1 0020404404", "alike 0 1 = 0", "alike 1 0 = 0",
        "mirrored 0 1 = 0");
    S.holds("CORNERS onto CORNERS: the first three of them in one line",
        "is 0 0020404404", "alike 0 0 = 1", "is 1 0010404404", "alike 0 1 = 0",
        "is 2 00103004", "is 3 00104004", "alike 2 2 = 1", "alike 2 3 = 0", "alike 3 2 = 0");
    S.holds("MIRRORED: 1, if such a map with -1 does it",
        "is 0 003012", "is 1 023210", "mirrored 0 1 = 1", "alike 0 1 = 1",
        "is 2 003032", "mirrored 0 2 = 0", "alike 0 2 = 1",
        "mirrored 1 2 = 1", "mirrored 0 0 = 0");
  }

  private static void part4Turned() {
    S.holds("TURNED by t (0 to 7)",
        "is 0 00f013", "turn 0 0 = 3", "told 0 00f013",
        "turn 0 7 = 3", "told 0 000f31",
        "turn 0 8 = -2", "turn 0 -1 = -2");
    S.holds("t by four quarters to the left about the midst of all DOTS",
        "is 0 01", "turn 0 1 = 1", "told 0 e0",
        "turn 0 1 = 1", "told 0 fe", "turn 0 1 = 1", "told 0 1f", "turn 0 1 = 1", "told 0 01",
        "turn 0 2 = 1", "told 0 fe", "turn 0 3 = 1", "told 0 e0",
        "is 1 78", "turn 1 1 = 1", "told 1 77", "turn 1 1 = 1", "told 1 87");
    S.holds("4 to 7 mirrored left to right first",
        "is 0 01", "turn 0 4 = 1", "told 0 f1", "turn 0 4 = 1", "told 0 01",
        "is 1 01", "turn 1 5 = 1", "told 1 ef",
        "is 2 01", "turn 2 6 = 1", "told 2 0e",
        "is 3 01", "turn 3 7 = 1", "told 3 10");
  }

  private static void part4Shifted() {
    S.holds("SHIFTED by x, y (-15 to 15)",
        "is 0 00", "shift 0 15 15 = 1", "told 0 ff", "shift 0 -15 -15 = 1", "told 0 00",
        "shift 0 15 0 = 1", "told 0 f0", "shift 0 -15 15 = 1", "told 0 0f",
        "shift 0 16 0 = -2", "shift 0 -16 0 = -2", "shift 0 0 16 = -2", "shift 0 0 -16 = -2");
  }

  private static void part4Slots() {
    S.holds("SLOTS 0 to 1 keep all FIELDS",
        "is 0 00", "is 1 11", "is 2 22", "is 3 33",
        "keep 0 = 4", "move 0 0 5 5 = 1", "move 3 0 6 6 = 1", "keep 1 = 4",
        "keep -1 = -1", "keep 2 = -1",
        "again 0 = 4", "told 0 00", "told 1 11", "told 2 22", "told 3 33",
        "again 1 = 4", "told 0 55", "told 1 11", "told 2 22", "told 3 66",
        "again -1 = -1", "again 2 = -1");
  }

  /** An object is used for at most 512 calls after it has been made: the last of these, too. */
  private static void lastCalls() {
    FieldsByDots x = new FieldsByDots();
    for (int round = 0; round < 85; round++) {
      D.due("write, of 6 calls", x.write(8, 0x3030343034343034L), 8);
      D.due("field, of 6 calls", x.field(round % 4), 4);
      D.due("move, of 6 calls", x.move(round % 4, 0, 1, 1), 1);
      D.due("keep, of 6 calls", x.keep(round % 2), Math.min(16, 4 * round + 4));
      D.due("about, of 6 calls", x.about(round % 4, 0), 24);
      D.due("wipe, of 6 calls", x.wipe(), 8);
    }
    D.due("call 511", x.again(1), 16);
    D.due("call 512", x.count(2), 4);
  }
}
