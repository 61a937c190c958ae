/** Promises 30 to 32: SLOTS, and count. */
public final class SlotsTest {
  private static final int MIN = Integer.MIN_VALUE;
  private static final int MAX = Integer.MAX_VALUE;
  private static final Due D = new Due("SlotsTest");

  public static void main(String[] args) {
    promise30And31();
    keptIsACopy();
    promise30And31Refused();
    promise32Count();
    D.end();
  }

  private static void promise30And31() {
    FieldsByDots x = Due.with("001001", "00404404", "", "112233");
    D.due("keep(0)", x.keep(0), 10);
    x.move(0, 0, 9, 9);
    x.take(1, 2);
    x.put(2, 0, 5, 5);
    x.put(3, 1, 5, 5);
    D.due("keep(1)", x.keep(1), 11);
    D.due("again(0)", x.again(0), 10);
    D.dueTold("as kept in 0", x, 0, "001001");
    D.dueTold("as kept in 0", x, 1, "00404404");
    D.dueTold("as kept in 0", x, 2, "");
    D.dueTold("as kept in 0", x, 3, "112233");
    D.due("again(1)", x.again(1), 11);
    D.dueTold("as kept in 1", x, 0, "991001");
    D.dueTold("as kept in 1", x, 1, "004004");
    D.dueTold("as kept in 1", x, 2, "55");
    D.dueTold("as kept in 1", x, 3, "11552233");
    D.due("again(0), once more", x.again(0), 10);
    D.due("keep(1), anew", x.keep(1), 10);
    x.shift(1, 1, 1);
    D.due("again(1)", x.again(1), 10);
    D.dueTold("as kept anew in 1", x, 1, "00404404");
  }

  /** What is kept does not change with the fields, nor do they by it. */
  private static void keptIsACopy() {
    FieldsByDots x = Due.with("001001");
    x.keep(0);
    x.turn(0, 1);
    x.hull(1, 0);
    x.again(0);
    D.dueTold("kept", x, 0, "001001");
    D.dueTold("kept", x, 1, "");
    x.shift(0, 3, 3);
    x.again(0);
    D.dueTold("kept still", x, 0, "001001");
    Due.text(x, "5566");
    x.again(0);
    D.due("the text is not kept", x.count(0), 4);
    FieldsByDots none = new FieldsByDots();
    D.due("keep(1) of no corners", none.keep(1), 0);
    none.put(0, 0, 1, 1);
    D.due("again(1) of no corners", none.again(1), 0);
    D.due("again(0), not kept", none.again(0), -3);
  }

  private static void promise30And31Refused() {
    FieldsByDots x = Due.with("001001");
    int[] unknown = {-1, 2, MIN, MAX};
    for (int slot : unknown) {
      D.due("keep(" + slot + ")", x.keep(slot), -1);
      D.due("again(" + slot + ")", x.again(slot), -1);
    }
    D.due("again(0)", x.again(0), -3);
    D.due("again(1)", x.again(1), -3);
    D.due("keep(0)", x.keep(0), 3);
    D.due("again(1)", x.again(1), -3);
    D.due("keep(2)", x.keep(2), -1);
    D.dueTold("refused, nothing changed", x, 0, "001001");
  }

  private static void promise32Count() {
    FieldsByDots x = Due.with("001001", "00404404", "00444004");
    D.due("count(0)", x.count(0), 0);
    x.write(7, 0);
    D.due("count(0)", x.count(0), 7);
    D.due("count(1)", x.count(1), 11);
    D.due("count(2)", x.count(2), 2);
    x.put(3, 0, 0, 0);
    D.due("count(1)", x.count(1), 12);
    D.due("count(2)", x.count(2), 2);
    x.hull(3, 2);
    D.due("count(1)", x.count(1), 15);
    D.due("count(2)", x.count(2), 3);
    D.due("count(3)", x.count(3), -2);
    D.due("count(-1)", x.count(-1), -2);
    D.due("count(MIN)", x.count(MIN), -2);
    D.due("count(MAX)", x.count(MAX), -2);
  }
}
