import java.util.NoSuchElementException;

/** Promises 1 to 11 and 15 to 29: stops, walks, lines, weather, trips. */
public final class NetworkTest {
  private static final Class<?> INDEX = IndexOutOfBoundsException.class;
  private static final Class<?> ARGUMENT = IllegalArgumentException.class;
  private static final Class<?> STATE = IllegalStateException.class;
  private static final Class<?> ELEMENT = NoSuchElementException.class;
  private static final Class<?> UNSUPPORTED = UnsupportedOperationException.class;
  private static final int[] WILD = {Integer.MIN_VALUE, -1, 10, 1 << 30, Integer.MAX_VALUE};

  private NetworkTest() {
  }

  private static RingTransit withStops(int count) {
    RingTransit x = new RingTransit();
    for (int stop = 0; stop < count; stop++) {
      x.addStop(stop);
    }
    return x;
  }

  /** Line 0: every 10 minutes from minute 3, 2 minutes a hop, 4 seats, round stops 0, 1, 2. */
  private static RingTransit withRing() {
    RingTransit x = withStops(5);
    x.addLine(10, 3, 2, 4);
    x.extendLine(0, 0);
    x.extendLine(0, 1);
    x.extendLine(0, 2);
    return x;
  }

  private static void newObject() {
    RingTransit x = new RingTransit();
    Check.same("1 stops", 0, x.stopCount());
    Check.same("1 lines", 0, x.lineCount());
    Check.same("1 rain", false, x.isRaining());
    Check.same("1 minute", 0, x.minute());
    Check.same("1 tickets", 0, x.ticketCount());
    Check.same("1 accounts", 0, x.income() + x.refundedCoins() + x.usedTickets());
    Check.same("1 consistent", true, x.isConsistent());
    Check.fails("1 undo", STATE, x::undo);
    Check.fails("1 restore", STATE, x::restore);
    Check.fails("1 output", INDEX, () -> x.outputAt(0));
    Check.fails("1 error", ELEMENT, x::errorPosition);
    Check.fails("1 failed", ELEMENT, x::failedCommand);
    RingTransit other = new RingTransit();
    other.addStop(1);
    Check.same("1 objects are apart", 0, x.stopCount());
  }

  private static void stops() {
    RingTransit x = new RingTransit();
    Check.fails("2 low", ARGUMENT, () -> x.addStop(-1));
    Check.fails("2 high", ARGUMENT, () -> x.addStop(10));
    for (int stop = 0; stop < 10; stop++) {
      Check.same("2 index", stop, x.addStop(9 - stop));
    }
    Check.fails("2 full", STATE, () -> x.addStop(0));
    Check.fails("2 order", ARGUMENT, () -> x.addStop(10));
    Check.same("17", 10, x.stopCount());
    Check.same("18 first", 9, x.transferMinutes(0));
    Check.same("18 last", 0, x.transferMinutes(9));
    Check.same("2 open", false, x.isClosed(9));
    Check.same("10 was open", false, x.setClosed(9, true));
    Check.same("10 was closed", true, x.setClosed(9, true));
    Check.same("19", true, x.isClosed(9));
    Check.same("19 others", false, x.isClosed(8));
    Check.same("10 opens", true, x.setClosed(9, false));
    Check.same("10 is open", false, x.isClosed(9));
    for (int stop : WILD) {
      Check.fails("10 index", INDEX, () -> x.setClosed(stop, true));
      Check.fails("18 index", INDEX, () -> x.transferMinutes(stop));
      Check.fails("19 index", INDEX, () -> x.isClosed(stop));
    }
  }

  private static void undoneStopIsForgotten() {
    RingTransit x = withStops(1);
    x.addStop(3);
    x.setClosed(1, true);
    x.undo();
    x.undo();
    Check.same("2 again", 1, x.addStop(4));
    Check.same("2 open again", false, x.isClosed(1));
    Check.same("2 new transfer", 4, x.transferMinutes(1));
  }

  private static void walks() {
    RingTransit x = withStops(7);
    Check.same("3 first", 1, x.addWalk(0, 1, 30));
    Check.same("3 second", 2, x.addWalk(2, 1, 1));
    Check.same("20", 30, x.walkMinutes(0, 1));
    Check.same("20 back", 30, x.walkMinutes(1, 0));
    Check.same("20 other", 1, x.walkMinutes(1, 2));
    Check.fails("3 same walk", STATE, () -> x.addWalk(1, 0, 5));
    Check.fails("3 same stop", ARGUMENT, () -> x.addWalk(3, 3, 5));
    Check.fails("3 low", ARGUMENT, () -> x.addWalk(0, 1, 0));
    Check.fails("3 high", ARGUMENT, () -> x.addWalk(0, 2, 31));
    Check.fails("20 none", ELEMENT, () -> x.walkMinutes(0, 2));
    Check.fails("20 same", ELEMENT, () -> x.walkMinutes(2, 2));
    Check.fails("4 none", ELEMENT, () -> x.removeWalk(0, 2));
    Check.fails("4 same", ELEMENT, () -> x.removeWalk(2, 2));
    for (int stop : new int[] {-1, 7, Integer.MIN_VALUE, Integer.MAX_VALUE, 214748365}) {
      Check.fails("3 first index", INDEX, () -> x.addWalk(stop, 1, 0));
      Check.fails("3 second index", INDEX, () -> x.addWalk(1, stop, 5));
      Check.fails("3 both", INDEX, () -> x.addWalk(stop, stop, 5));
      Check.fails("4 first index", INDEX, () -> x.removeWalk(stop, 1));
      Check.fails("4 second index", INDEX, () -> x.removeWalk(1, stop));
      Check.fails("20 first index", INDEX, () -> x.walkMinutes(stop, 1));
      Check.fails("20 second index", INDEX, () -> x.walkMinutes(1, stop));
    }
    Check.same("4", 30, x.removeWalk(1, 0));
    Check.fails("4 is gone", ELEMENT, () -> x.walkMinutes(0, 1));
    Check.same("3 count after", 2, x.addWalk(0, 1, 7));
  }

  private static void fifteenWalks() {
    RingTransit x = withStops(7);
    int walks = 0;
    for (int first = 0; first < 6; first++) {
      for (int second = first + 1; second < 6; second++) {
        walks++;
        Check.same("3 count", walks, x.addWalk(first, second, 4));
      }
    }
    Check.fails("3 full", STATE, () -> x.addWalk(0, 6, 4));
    Check.fails("3 order", ARGUMENT, () -> x.addWalk(6, 6, 4));
    x.removeWalk(0, 5);
    Check.same("3 room again", 15, x.addWalk(0, 6, 4));
  }

  private static void lines() {
    RingTransit x = new RingTransit();
    Check.fails("5 headway low", ARGUMENT, () -> x.addLine(0, 0, 1, 1));
    Check.fails("5 headway high", ARGUMENT, () -> x.addLine(61, 0, 1, 1));
    Check.fails("5 offset low", ARGUMENT, () -> x.addLine(1, -1, 1, 1));
    Check.fails("5 offset high", ARGUMENT, () -> x.addLine(1, 60, 1, 1));
    Check.fails("5 hop low", ARGUMENT, () -> x.addLine(1, 0, 0, 1));
    Check.fails("5 hop high", ARGUMENT, () -> x.addLine(1, 0, 10, 1));
    Check.fails("5 seats low", ARGUMENT, () -> x.addLine(1, 0, 1, 0));
    Check.fails("5 seats high", ARGUMENT, () -> x.addLine(1, 0, 1, 21));
    Check.same("5 least", 0, x.addLine(1, 0, 1, 1));
    Check.same("5 greatest", 1, x.addLine(60, 59, 9, 20));
    for (int line = 2; line < 5; line++) {
      Check.same("5 index", line, x.addLine(5, 5, 5, 5));
    }
    Check.fails("5 full", STATE, () -> x.addLine(5, 5, 5, 5));
    Check.fails("5 order", ARGUMENT, () -> x.addLine(5, 5, 5, 21));
    Check.same("21", 5, x.lineCount());
    Check.same("22 empty", 0, x.ringSize(4));
    Check.same("25", 9, x.hopMinutes(1));
    Check.same("26 empty ring", false, x.runs(1));
    Check.fails("22 index", INDEX, () -> x.ringSize(5));
    Check.fails("25 index", INDEX, () -> x.hopMinutes(-1));
    Check.fails("26 index", INDEX, () -> x.runs(5));
  }

  private static void rings() {
    RingTransit x = withStops(8);
    x.addLine(10, 3, 2, 4);
    Check.fails("7 empty", ELEMENT, () -> x.shortenLine(0));
    Check.fails("23 empty", ELEMENT, () -> x.stopAt(0, 0));
    Check.same("6 first", 1, x.extendLine(0, 7));
    Check.same("26 one stop", false, x.runs(0));
    Check.fails("6 twice", UNSUPPORTED, () -> x.extendLine(0, 7));
    Check.same("6 second", 2, x.extendLine(0, 2));
    Check.same("26 two stops", true, x.runs(0));
    Check.same("22", 2, x.ringSize(0));
    Check.same("23 first", 7, x.stopAt(0, 0));
    Check.same("23 second", 2, x.stopAt(0, 1));
    Check.same("23 end", 7, x.stopAt(0, 2));
    Check.fails("23 beyond", ELEMENT, () -> x.stopAt(0, 3));
    Check.fails("23 below", ELEMENT, () -> x.stopAt(0, -1));
    Check.fails("23 index", INDEX, () -> x.stopAt(1, 0));
    Check.same("24 first", 0, x.positionOf(0, 7));
    Check.same("24 second", 1, x.positionOf(0, 2));
    Check.fails("24 not in", ELEMENT, () -> x.positionOf(0, 1));
    Check.fails("24 line", INDEX, () -> x.positionOf(1, 2));
    Check.fails("24 stop", INDEX, () -> x.positionOf(0, 8));
    Check.fails("6 line", INDEX, () -> x.extendLine(1, 2));
    Check.fails("6 stop", INDEX, () -> x.extendLine(0, 8));
    for (int stop = 3; stop < 7; stop++) {
      x.extendLine(0, stop);
    }
    Check.fails("6 full", STATE, () -> x.extendLine(0, 0));
    Check.fails("6 full comes first", STATE, () -> x.extendLine(0, 7));
    Check.same("7", 6, x.shortenLine(0));
    Check.same("7 size", 5, x.ringSize(0));
    Check.fails("7 index", INDEX, () -> x.shortenLine(1));
    x.sellTicket(0, 0, 0, 1);
    Check.fails("7 ticket", STATE, () -> x.shortenLine(0));
    Check.fails("6 ticket", STATE, () -> x.extendLine(0, 0));
    Check.fails("6 ticket comes first", STATE, () -> x.extendLine(0, 7));
    x.refund(0);
    Check.same("6 after refund", 6, x.extendLine(0, 0));
  }

  private static void weather() {
    RingTransit x = withRing();
    Check.same("8 was dry", false, x.setRain(true));
    Check.same("8 was wet", true, x.setRain(true));
    Check.same("16", true, x.isRaining());
    Check.same("25 no delay yet", 2, x.hopMinutes(0));
    Check.same("9 at first", 0, x.setRainDelay(0, 5));
    Check.same("25 rain", 7, x.hopMinutes(0));
    Check.same("9 before", 5, x.setRainDelay(0, 3));
    Check.same("27 rain", 3 + 10 + 3 * 5, x.tripMinute(0, 1, 3));
    Check.same("8 dry", true, x.setRain(false));
    Check.same("16 dry", false, x.isRaining());
    Check.same("25 dry", 2, x.hopMinutes(0));
    Check.fails("9 low", ARGUMENT, () -> x.setRainDelay(0, -1));
    Check.fails("9 high", ARGUMENT, () -> x.setRainDelay(0, 6));
    Check.fails("9 index", INDEX, () -> x.setRainDelay(1, 6));
    Check.fails("9 index below", INDEX, () -> x.setRainDelay(-1, 0));
  }

  private static void suspension() {
    RingTransit x = withRing();
    x.sellTicket(0, 0, 0, 1);
    Check.same("11 was running", false, x.setSuspended(0, true));
    Check.same("26 suspended", false, x.runs(0));
    Check.same("11 tickets remain", 1, x.ticketCount());
    Check.same("27 suspended", 5, x.tripMinute(0, 0, 1));
    Check.same("36 suspended", 3, x.freeSeats(0, 0, 0, 1));
    Check.fails("28 suspended", STATE, () -> x.nextTrip(0, 0, 0));
    Check.fails("29 suspended", STATE, () -> x.nextTripBySearch(0, 0, 0));
    Check.same("11 was suspended", true, x.setSuspended(0, false));
    Check.same("26 again", true, x.runs(0));
    Check.fails("11 index", INDEX, () -> x.setSuspended(1, true));
    Check.fails("11 index below", INDEX, () -> x.setSuspended(-1, true));
  }

  private static void trips() {
    RingTransit x = withRing();
    Check.same("27 start", 3, x.tripMinute(0, 0, 0));
    Check.same("27 end", 29, x.tripMinute(0, 2, 3));
    Check.same("27 last trip", 993, x.tripMinute(0, 99, 0));
    Check.fails("27 trip high", ARGUMENT, () -> x.tripMinute(0, 100, 0));
    Check.fails("27 trip low", ARGUMENT, () -> x.tripMinute(0, -1, 0));
    Check.fails("27 position high", ARGUMENT, () -> x.tripMinute(0, 0, 4));
    Check.fails("27 position low", ARGUMENT, () -> x.tripMinute(0, 0, -1));
    Check.fails("27 index", INDEX, () -> x.tripMinute(1, 100, 0));
    x.addLine(10, 3, 2, 4);
    Check.fails("27 no stop", STATE, () -> x.tripMinute(1, 0, 0));
    Check.fails("27 no stop, no position", ARGUMENT, () -> x.tripMinute(1, 0, 1));
    Check.fails("28 no stop", ARGUMENT, () -> x.nextTrip(1, 0, 0));
    x.extendLine(1, 4);
    Check.fails("27 one stop", STATE, () -> x.tripMinute(1, 0, 1));
    Check.fails("27 one stop, wrong trip", ARGUMENT, () -> x.tripMinute(1, 100, 1));
    Check.fails("28 one stop", STATE, () -> x.nextTrip(1, 0, 0));
    Check.fails("29 one stop", STATE, () -> x.nextTripBySearch(1, 0, 0));
  }

  private static void nextTrips() {
    RingTransit x = withRing();
    Check.same("28 first", 0, x.nextTrip(0, 0, 0));
    Check.same("28 to the minute", 0, x.nextTrip(0, 0, 3));
    Check.same("28 a minute late", 1, x.nextTrip(0, 0, 4));
    Check.same("28 further on", 2, x.nextTrip(0, 1, 20));
    Check.same("28 beyond 99", 1000, x.nextTrip(0, 2, 9999));
    x.setRainDelay(0, 5);
    x.setRain(true);
    Check.same("28 in rain", 1, x.nextTrip(0, 2, 18));
    for (int position = 0; position < 3; position++) {
      for (int minute = 0; minute < 10000; minute += minute < 60 ? 1 : 37) {
        Check.same(
            "29", x.nextTrip(0, position, minute), x.nextTripBySearch(0, position, minute));
      }
    }
    Check.fails("28 end of the ring", ARGUMENT, () -> x.nextTrip(0, 3, 0));
    Check.fails("28 position", ARGUMENT, () -> x.nextTrip(0, -1, 0));
    Check.fails("28 minute low", ARGUMENT, () -> x.nextTrip(0, 0, -1));
    Check.fails("28 minute high", ARGUMENT, () -> x.nextTrip(0, 0, 10000));
    Check.fails("28 index", INDEX, () -> x.nextTrip(1, 9, -1));
    Check.fails("29 end of the ring", ARGUMENT, () -> x.nextTripBySearch(0, 3, 0));
    Check.fails("29 minute low", ARGUMENT, () -> x.nextTripBySearch(0, 0, -1));
    Check.fails("29 minute high", ARGUMENT, () -> x.nextTripBySearch(0, 0, 10000));
    Check.fails("29 index", INDEX, () -> x.nextTripBySearch(-1, 9, -1));
    x.setSuspended(0, true);
    Check.fails("28 order", ARGUMENT, () -> x.nextTrip(0, 0, 10000));
    Check.fails("29 order", ARGUMENT, () -> x.nextTripBySearch(0, 3, 0));
  }

  private static void denseTrips() {
    RingTransit x = withStops(2);
    x.addLine(1, 0, 1, 1);
    x.extendLine(0, 0);
    x.extendLine(0, 1);
    Check.same("28 every minute", 9999, x.nextTrip(0, 0, 9999));
    Check.same("29 every minute", 9999, x.nextTripBySearch(0, 0, 9999));
    Check.same("29 every minute, next stop", 9998, x.nextTripBySearch(0, 1, 9999));
  }

  private static void minutes() {
    RingTransit x = new RingTransit();
    x.advance(120);
    Check.same("15", 120, x.minute());
    x.advance(1);
    Check.same("15 one more", 121, x.minute());
  }

  public static void main(String[] args) {
    newObject();
    stops();
    undoneStopIsForgotten();
    walks();
    fifteenWalks();
    lines();
    rings();
    weather();
    suspension();
    trips();
    nextTrips();
    denseTrips();
    minutes();
    Check.end("NetworkTest");
  }
}
