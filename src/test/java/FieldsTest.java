/** Promises 1 to 11: a new object, THE TEXT, and changes to FIELDS. */
public final class FieldsTest {
  private static final int MIN = Integer.MIN_VALUE;
  private static final int MAX = Integer.MAX_VALUE;
  private static final Due D = new Due("FieldsTest");

  public static void main(String[] args) {
    promise1NewObject();
    promise2Write();
    promise2BytesOfV();
    promise3Wipe();
    promise4Signs();
    promise4Ends();
    promise4Alike();
    promise4TooLong();
    promise5Field();
    promise6Corner();
    promise7Move();
    promise8Put();
    promise8Full();
    promise9Take();
    promise10Turn();
    promise11Shift();
    D.end();
  }

  private static void promise1NewObject() {
    FieldsByDots x = new FieldsByDots();
    D.due("new: count(0)", x.count(0), 0);
    D.due("new: count(1)", x.count(1), 0);
    D.due("new: count(2)", x.count(2), 0);
    for (int f = 0; f < 4; f++) {
      D.due("new: corner(f, 0, 0)", x.corner(f, 0, 0), -1);
      D.due("new: sound(f)", x.sound(f), 0);
      D.due("new: put(f, 0, 1, 2)", x.put(f, 0, 1, 2), 1);
    }
    D.due("new: again(0)", x.again(0), -3);
    D.due("new: again(1)", x.again(1), -3);
    FieldsByDots y = new FieldsByDots();
    D.due("another new one: count(1)", y.count(1), 0);
  }

  private static void promise2Write() {
    FieldsByDots x = new FieldsByDots();
    D.due("write(0, 48)", x.write(0, 48), -2);
    D.due("write(9, 48)", x.write(9, 48), -2);
    D.due("write(-1, 48)", x.write(-1, 48), -2);
    D.due("write(MIN, 48)", x.write(MIN, 48), -2);
    D.due("write(MAX, 48)", x.write(MAX, 48), -2);
    D.due("nothing came", x.count(0), 0);
    D.due("write(1, 48)", x.write(1, 48), 1);
    D.due("write(8, 0)", x.write(8, 0), 9);
    D.due("write(8, -1)", x.write(8, -1), 17);
    D.due("write(8, 0) is too much", x.write(8, 0), -4);
    D.due("nothing of it came", x.count(0), 17);
    D.due("write(7, 0)", x.write(7, 0), 24);
    D.due("write(1, 0) at 24", x.write(1, 0), -4);
    D.due("write(0, 0) at 24", x.write(0, 0), -2);
    D.due("write(9, 0) at 24", x.write(9, 0), -2);
    D.due("still 24", x.count(0), 24);
  }

  private static void promise2BytesOfV() {
    FieldsByDots x = new FieldsByDots();
    // 0x30 .. 0x37 are the signs 0 to 7
    D.due("write(8, ..)", x.write(8, 0x3031323334353637L), 8);
    D.due("field(0)", x.field(0), 4);
    D.dueTold("eight bytes, the highest first", x, 0, "01234567");
    x.wipe();
    D.due("write(3, ..)", x.write(3, 0x3031323334353637L), 3);
    D.due("write(3, ..)", x.write(3, 0xffffffffff616263L), 6);
    D.due("field(1)", x.field(1), 3);
    D.dueTold("the lowest three", x, 1, "567abc");
    x.wipe();
    // the same low byte with other bytes above it is another sign only if n reaches it
    x.write(1, 0x130L);
    D.due("one byte of 0x130 is a 0", x.fault(), 1);
    x.wipe();
    x.write(2, 0x130L);
    D.due("two bytes of 0x130 begin with 1", x.fault(), 0);
    x.wipe();
    x.write(1, 0xb0L);
    D.due("a byte above 127 is no sign", x.fault(), 0);
    x.wipe();
    x.write(8, 0xb030303030303030L);
    D.due("nor is the highest of eight", x.fault(), 0);
  }

  private static void promise3Wipe() {
    FieldsByDots x = new FieldsByDots();
    D.due("wipe() of nothing", x.wipe(), 0);
    x.write(5, 0);
    D.due("wipe() of 5", x.wipe(), 5);
    D.due("count(0)", x.count(0), 0);
    D.due("wipe() again", x.wipe(), 0);
    x.write(8, 0);
    x.write(8, 0);
    x.write(8, 0);
    D.due("wipe() of 24", x.wipe(), 24);
    D.due("write behind it", x.write(6, 0x303031303031L), 6);
    D.due("field(0)", x.field(0), 3);
    x.wipe();
    D.due("wipe leaves fields", x.count(1), 3);
  }

  private static void dueFault(String text, int want) {
    FieldsByDots x = new FieldsByDots();
    Due.text(x, text);
    D.due("fault() of '" + text + "'", x.fault(), want);
    D.due("the text stays", x.count(0), text.length());
    int made = want == FieldsByDots.NONE ? text.length() / 2 : FieldsByDots.STATE;
    D.due("field(2) of '" + text + "'", x.field(2), made);
    D.due("corners of '" + text + "'", x.count(1), Math.max(made, 0));
  }

  private static void promise4Signs() {
    for (int sign = 0; sign < 256; sign++) {
      boolean good = sign >= '0' && sign <= '9' || sign >= 'a' && sign <= 'f';
      dueFault((char) sign + "", good ? 1 : 0);
      dueFault("7" + (char) sign, good ? 2 : 1);
      dueFault("70717" + (char) sign, sign == '0' || sign == '1' || !good ? 5 : -9);
      dueFault("7071" + (char) sign + "0", sign == '7' ? 5 : good ? -9 : 4);
    }
    dueFault("00g0", 2);
    dueFault("0A", 1);
    dueFault("00 0", 2);
  }

  private static void promise4Ends() {
    dueFault("", 0);
    dueFault("0", 1);
    dueFault("00", 2);
    dueFault("000", 3);
    dueFault("0001", 4);
    dueFault("00011", 5);
    dueFault("000110", -9);
    dueFault("0001101", 7);
    dueFault("00011011", -9);
  }

  private static void promise4Alike() {
    dueFault("0000", 3);
    dueFault("00g000", 2);
    dueFault("000g00", 3);
    dueFault("0010g000", 4);
    dueFault("0001020102", 7);
    dueFault("0001020", 7);
    dueFault("001221", -9);
    dueFault("012012", -9);
    dueFault("011001", 5);
    dueFault("0110100", 5);
    dueFault("00102030405060708000", 19);
    dueFault("00102030405060708080", 19);
    dueFault("0010203040506070809", 19);
  }

  private static void promise4TooLong() {
    String ten = "00102030405060708090";
    dueFault(ten, -9);
    dueFault(ten + "a", 20);
    dueFault(ten + "g", 20);
    dueFault(ten + "a0", 20);
    dueFault(ten + "00", 20);
    dueFault(ten + "a0b0", 20);
    dueFault("000000000000000000000000", 3);
  }

  private static void promise5Field() {
    FieldsByDots x = new FieldsByDots();
    D.due("field(0) of no text", x.field(0), -3);
    D.due("field(-1) of no text", x.field(-1), -1);
    D.due("field(4)", x.field(4), -1);
    D.due("field(MIN)", x.field(MIN), -1);
    D.due("field(MAX)", x.field(MAX), -1);
    Due.text(x, "0f1ea3b4");
    D.due("field(3)", x.field(3), 4);
    D.due("field(0)", x.field(0), 4);
    D.dueTold("field(3)", x, 3, "0f1ea3b4");
    D.dueTold("field(0)", x, 0, "0f1ea3b4");
    D.due("the text stays", x.count(0), 8);
    Due.text(x, "001020");
    D.due("field(3) anew", x.field(3), 3);
    D.dueTold("in one line, too", x, 3, "001020");
    D.dueTold("the other one stays", x, 0, "0f1ea3b4");
    x.write(1, '5');
    D.due("field(3) with a fault", x.field(3), -3);
    D.dueTold("changes nothing", x, 3, "001020");
    D.due("field(4) with a fault", x.field(4), -1);
  }

  private static void promise6Corner() {
    FieldsByDots x = Due.with("", "0f1ea3");
    D.due("corner(1, 0, 0)", x.corner(1, 0, 0), 0);
    D.due("corner(1, 0, 1)", x.corner(1, 0, 1), 15);
    D.due("corner(1, 2, 0)", x.corner(1, 2, 0), 10);
    D.due("corner(1, 2, 1)", x.corner(1, 2, 1), 3);
    D.due("corner(1, 3, 0)", x.corner(1, 3, 0), -1);
    D.due("corner(1, -1, 0)", x.corner(1, -1, 0), -1);
    D.due("corner(1, MIN, 0)", x.corner(1, MIN, 0), -1);
    D.due("corner(1, MAX, 0)", x.corner(1, MAX, 0), -1);
    D.due("corner(0, 0, 0)", x.corner(0, 0, 0), -1);
    D.due("corner(4, 0, 0)", x.corner(4, 0, 0), -1);
    D.due("corner(-1, 0, 0)", x.corner(-1, 0, 0), -1);
    D.due("corner(1, 0, 2)", x.corner(1, 0, 2), -2);
    D.due("corner(1, 0, -1)", x.corner(1, 0, -1), -2);
    D.due("corner(1, 3, 2)", x.corner(1, 3, 2), -1);
    D.due("corner(MIN, MAX, 7)", x.corner(MIN, MAX, 7), -1);
  }

  private static void promise7Move() {
    FieldsByDots x = Due.with("", "004004");
    D.due("move(1, 1, 15, 0)", x.move(1, 1, 15, 0), 1);
    D.dueTold("moved", x, 1, "00f004");
    D.due("move to where it is", x.move(1, 1, 15, 0), 0);
    D.dueTold("not moved", x, 1, "00f004");
    D.due("move onto another", x.move(1, 1, 0, 4), -3);
    D.due("move onto the first", x.move(1, 1, 0, 0), -3);
    D.due("move(1, 0, 16, 0)", x.move(1, 0, 16, 0), -2);
    D.due("move(1, 0, 0, 16)", x.move(1, 0, 0, 16), -2);
    D.due("move(1, 0, -1, 0)", x.move(1, 0, -1, 0), -2);
    D.due("move(1, 0, 0, -1)", x.move(1, 0, 0, -1), -2);
    D.due("move(1, 0, MIN, MAX)", x.move(1, 0, MIN, MAX), -2);
    D.due("move(1, 3, 9, 9)", x.move(1, 3, 9, 9), -1);
    D.due("move(1, -1, 9, 9)", x.move(1, -1, 9, 9), -1);
    D.due("move(1, 3, 16, 9)", x.move(1, 3, 16, 9), -1);
    D.due("move(0, 0, 9, 9)", x.move(0, 0, 9, 9), -1);
    D.due("move(4, 0, 9, 9)", x.move(4, 0, 9, 9), -1);
    D.due("move(-1, 0, 99, 9)", x.move(-1, 0, 99, 9), -1);
    D.dueTold("refused, not moved", x, 1, "00f004");
    D.due("move(1, 2, 15, 15)", x.move(1, 2, 15, 15), 1);
    D.due("only y differs", x.move(1, 2, 15, 14), 1);
    D.due("only x differs", x.move(1, 2, 14, 14), 1);
    D.dueTold("moved again", x, 1, "00f0ee");
  }

  private static void promise8Put() {
    FieldsByDots x = new FieldsByDots();
    D.due("put(2, 1, 0, 0)", x.put(2, 1, 0, 0), -1);
    D.due("put(2, -1, 0, 0)", x.put(2, -1, 0, 0), -1);
    D.due("put(2, 0, 5, 5)", x.put(2, 0, 5, 5), 1);
    D.due("put(2, 0, 4, 4)", x.put(2, 0, 4, 4), 2);
    D.due("put(2, 2, 6, 6)", x.put(2, 2, 6, 6), 3);
    D.due("put(2, 1, 7, 0)", x.put(2, 1, 7, 0), 4);
    D.dueTold("ahead of one, behind the last", x, 2, "44705566");
    D.due("put(2, 5, 1, 1)", x.put(2, 5, 1, 1), -1);
    D.due("put(2, MAX, 1, 1)", x.put(2, MAX, 1, 1), -1);
    D.due("put(2, 5, 16, 1)", x.put(2, 5, 16, 1), -1);
    D.due("put(4, 0, 1, 1)", x.put(4, 0, 1, 1), -1);
    D.due("put(-1, 0, 1, 1)", x.put(-1, 0, 1, 1), -1);
    D.due("put(2, 0, 16, 1)", x.put(2, 0, 16, 1), -2);
    D.due("put(2, 0, 1, 16)", x.put(2, 0, 1, 16), -2);
    D.due("put(2, 0, -1, 1)", x.put(2, 0, -1, 1), -2);
    D.due("put(2, 0, 1, -1)", x.put(2, 0, 1, -1), -2);
    D.due("put(2, 0, 4, 4)", x.put(2, 0, 4, 4), -3);
    D.due("put(2, 0, 5, 5)", x.put(2, 0, 5, 5), -3);
    D.due("put(2, 4, 6, 6)", x.put(2, 4, 6, 6), -3);
    D.dueTold("refused, not put", x, 2, "44705566");
  }

  private static void promise8Full() {
    FieldsByDots x = Due.with("001020304050607080");
    D.due("put the tenth", x.put(0, 9, 9, 0), 10);
    D.due("put an eleventh", x.put(0, 10, 10, 0), -4);
    D.due("put an eleventh at 0", x.put(0, 0, 10, 0), -4);
    D.due("where one is", x.put(0, 0, 9, 0), -3);
    D.due("on no dot", x.put(0, 0, 9, 16), -2);
    D.due("at 11", x.put(0, 11, 10, 0), -1);
    D.dueTold("refused, not put", x, 0, "00102030405060708090");
    D.due("put in another one", x.put(1, 0, 9, 0), 1);
  }

  private static void promise9Take() {
    FieldsByDots x = Due.with("0010203040", "001020");
    D.due("take(0, 5)", x.take(0, 5), -1);
    D.due("take(0, -1)", x.take(0, -1), -1);
    D.due("take(4, 0)", x.take(4, 0), -1);
    D.due("take(-1, 0)", x.take(-1, 0), -1);
    D.due("take(2, 0) of none", x.take(2, 0), -1);
    D.due("take(0, 1)", x.take(0, 1), 4);
    D.dueTold("taken", x, 0, "00203040");
    D.due("take(0, 4)", x.take(0, 4), -1);
    D.due("take(0, 3), the last", x.take(0, 3), 3);
    D.dueTold("taken", x, 0, "002030");
    D.due("take(0, 0) of 3", x.take(0, 0), -3);
    D.due("take(0, 3) of 3", x.take(0, 3), -1);
    D.due("take(1, 2) of 3", x.take(1, 2), -3);
    D.dueTold("not taken", x, 0, "002030");
    x.put(2, 0, 7, 7);
    D.due("take(2, 0) of 1", x.take(2, 0), -3);
    D.due("put(0, 0, 5, 5)", x.put(0, 0, 5, 5), 4);
    D.due("take(0, 0) of 4", x.take(0, 0), 3);
    D.dueTold("the first taken", x, 0, "002030");
  }

  private static void promise10Turn() {
    // (1, 2), (f, 2) and (3, a), by hand
    String[] due = {
      "12f23a", "d1df53", "ed0dc5", "2e20ac", "e202ca", "ded05c", "1dfd35", "212fa3",
    };
    for (int t = 0; t < 8; t++) {
      FieldsByDots x = Due.with("12f23a", "000110");
      D.due("turn(0, t)", x.turn(0, t), 3);
      D.dueTold("turned by " + t, x, 0, due[t]);
      D.dueTold("the other one stays", x, 1, "000110");
    }
    FieldsByDots x = Due.with("12f23a");
    D.due("turn(1, 5), empty", x.turn(1, 5), 0);
    D.due("turn(0, 8)", x.turn(0, 8), -2);
    D.due("turn(0, -1)", x.turn(0, -1), -2);
    D.due("turn(0, MIN)", x.turn(0, MIN), -2);
    D.due("turn(1, 8), empty", x.turn(1, 8), -2);
    D.due("turn(4, 0)", x.turn(4, 0), -1);
    D.due("turn(-1, 8)", x.turn(-1, 8), -1);
    D.dueTold("refused, not turned", x, 0, "12f23a");
    D.due("turn(0, 1)", x.turn(0, 1), 3);
    D.due("turn(0, 3)", x.turn(0, 3), 3);
    D.dueTold("there and back", x, 0, "12f23a");
  }

  private static void promise11Shift() {
    FieldsByDots x = Due.with("125634");
    D.due("shift(0, 10, -2)", x.shift(0, 10, -2), 3);
    D.dueTold("shifted", x, 0, "b0f4d2");
    D.due("shift(0, 1, 0)", x.shift(0, 1, 0), -3);
    D.due("shift(0, 0, -1)", x.shift(0, 0, -1), -3);
    D.due("shift(0, -12, 0)", x.shift(0, -12, 0), -3);
    D.due("shift(0, 0, 12)", x.shift(0, 0, 12), -3);
    D.due("shift(0, 16, 0)", x.shift(0, 16, 0), -2);
    D.due("shift(0, -16, 0)", x.shift(0, -16, 0), -2);
    D.due("shift(0, 0, 16)", x.shift(0, 0, 16), -2);
    D.due("shift(0, 0, -16)", x.shift(0, 0, -16), -2);
    D.due("shift(0, MIN, MAX)", x.shift(0, MIN, MAX), -2);
    D.due("shift(4, 0, 0)", x.shift(4, 0, 0), -1);
    D.due("shift(-1, 99, 0)", x.shift(-1, 99, 0), -1);
    D.dueTold("refused, not shifted", x, 0, "b0f4d2");
    D.due("shift(0, -11, 11)", x.shift(0, -11, 11), 3);
    D.dueTold("shifted to the edge", x, 0, "0b4f2d");
    D.due("shift(0, 0, 0)", x.shift(0, 0, 0), 3);
    D.due("shift(1, 15, -15), empty", x.shift(1, 15, -15), 0);
    D.due("shift(1, 16, 0), empty", x.shift(1, 16, 0), -2);
    x.put(2, 0, 0, 15);
    D.due("shift(2, 15, -15)", x.shift(2, 15, -15), 1);
    D.dueTold("from edge to edge", x, 2, "f0");
    D.due("shift(2, -15, 15)", x.shift(2, -15, 15), 1);
    D.dueTold("and back", x, 2, "0f");
  }
}
