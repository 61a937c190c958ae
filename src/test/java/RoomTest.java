import java.lang.management.ManagementFactory;

/** All calls of a run live in one room: only the constructor makes objects and arrays. */
public final class RoomTest {
  /** The meter's own objects, and what the machine makes when a method is first called. */
  private static final long SLACK = 20_000;
  private static final long MOST_A_NEW_OBJECT = 8_000;

  public static void main(String[] args) {
    Due d = new Due("RoomTest");
    com.sun.management.ThreadMXBean meter =
        (com.sun.management.ThreadMXBean) ManagementFactory.getThreadMXBean();
    FieldsByDots x = Due.with("5080b2d5d8bb8d5d2b08", "0030226166364405", "00f0ff0f", "00444004");
    meter.getCurrentThreadAllocatedBytes();
    allCalls(x);
    long before = meter.getCurrentThreadAllocatedBytes();
    for (int i = 0; i < 1000; i++) {
      allCalls(x);
    }
    long made = meter.getCurrentThreadAllocatedBytes() - before;
    d.due("bytes made by 1000 times all calls, beyond the slack", Math.max(0, made - SLACK), 0);

    before = meter.getCurrentThreadAllocatedBytes();
    FieldsByDots another = new FieldsByDots();
    made = meter.getCurrentThreadAllocatedBytes() - before;
    d.due("bytes made by a new object, beyond the most",
        Math.max(0, made - MOST_A_NEW_OBJECT), 0);
    d.due("it is used", another.count(0), 0);
    d.end();
  }

  private static void allCalls(FieldsByDots x) {
    x.keep(0);
    x.wipe();
    x.write(8, 0x3030343034343034L);
    x.fault();
    x.field(3);
    x.corner(3, 0, 0);
    x.move(3, 0, 1, 0);
    x.put(3, 0, 0, 1);
    x.take(3, 0);
    x.turn(3, 7);
    x.shift(3, 0, 1);
    for (int f = 0; f < 4; f++) {
      for (int what = 0; what < 9; what++) {
        x.about(f, what);
        x.least(f, what);
      }
      x.sound(f);
      x.where(f, 5, 5);
      x.how(f, 1);
      x.wide(f, 2, 3);
      x.narrow(f, 2);
      x.grown(f, 9);
      x.sees(f, 0, 2);
      x.strip(f, 0, 2);
      x.fair(f);
      x.sides(f, 0, 2);
      x.guards(f);
      x.hops(f, 0, 2);
      x.alike(f, 0);
      x.mirrored(f, f);
      x.common(f, 2);
    }
    x.hull(3, 1);
    x.again(0);
    x.count(2);
  }
}
