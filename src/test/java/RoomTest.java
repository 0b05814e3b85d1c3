import java.lang.management.ManagementFactory;

/** The room: an object takes little of it, and its calls take next to none, however dear they are. */
public final class RoomTest {
  private static final com.sun.management.ThreadMXBean MEMORY =
      (com.sun.management.ThreadMXBean) ManagementFactory.getThreadMXBean();

  private RoomTest() {
  }

  private static long taken() {
    return MEMORY.getThreadAllocatedBytes(Thread.currentThread().getId());
  }

  private static RingTransit whole() {
    RingTransit x = new RingTransit();
    for (int stop = 0; stop < 10; stop++) {
      x.addStop(stop);
    }
    for (int line = 0; line < 5; line++) {
      x.addLine(7, line, 3, 20);
      for (int position = 0; position < 6; position++) {
        x.extendLine(line, (line * 2 + position) % 10);
      }
    }
    for (int walk = 0; walk < 9; walk++) {
      x.addWalk(walk, walk + 1, 4);
    }
    for (int ticket = 0; ticket < 16; ticket++) {
      x.sellTicket(ticket % 5, 99, ticket % 3, 4 + ticket % 3);
    }
    return x;
  }

  private static void calls(RingTransit x) {
    String script = "rain;wait 1;dry";
    for (int call = 0; call < 512; call++) {
      x.isConsistent();
      x.earliestArrival(0, 9, call);
      x.earliestArrivalByRounds(0, 9, call);
      x.nextTripBySearch(0, 0, 9999);
      x.smallestCut(0, 9);
      x.fewestBoardingsByTable(0, 9);
      x.setRain(call % 2 == 0);
      x.renderLine(call % 5);
      x.renderTicket(call % 16);
      x.save();
      for (int index = 0; index < script.length(); index++) {
        x.type(script.charAt(index));
      }
      x.runScript();
      x.undo();
      x.restore();
    }
  }

  public static void main(String[] args) {
    RingTransit x = whole();
    calls(x);
    long start = taken();
    calls(x);
    long used = taken() - start;
    Check.same("512 calls of each kind take " + used + " bytes", true, used < 20000);
    start = taken();
    new RingTransit();
    used = taken() - start;
    Check.same("a new object takes " + used + " bytes", true, used < 60000);
    Check.end("RoomTest");
  }
}
