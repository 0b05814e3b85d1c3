import java.util.NoSuchElementException;

/** Promises 30 to 35 and 52: journeys, boardings, flow, and that both ways agree. */
public final class JourneysTest {
  private static final Class<?> INDEX = IndexOutOfBoundsException.class;
  private static final Class<?> ARGUMENT = IllegalArgumentException.class;
  private static final Class<?> ELEMENT = NoSuchElementException.class;

  private JourneysTest() {
  }

  private static RingTransit withStops(int... transfers) {
    RingTransit x = new RingTransit();
    for (int transfer : transfers) {
      x.addStop(transfer);
    }
    return x;
  }

  private static int line(
      RingTransit x, int headway, int offset, int hop, int seats, int... ring) {
    int line = x.addLine(headway, offset, hop, seats);
    for (int stop : ring) {
      x.extendLine(line, stop);
    }
    return line;
  }

  private static void arrives(RingTransit x, String what, int from, int to, int minute, int want) {
    Check.same("30 " + what, want, x.earliestArrival(from, to, minute));
    Check.same("31 " + what, want, x.earliestArrivalByRounds(from, to, minute));
    Check.same("52 " + what, true, x.isConsistent());
  }

  private static void boards(RingTransit x, String what, int from, int to, int want) {
    Check.same("32 " + what, want, x.fewestBoardings(from, to));
    Check.same("33 " + what, want, x.fewestBoardingsByTable(from, to));
  }

  private static void noWay(RingTransit x, String what, int from, int to) {
    Check.fails("30 " + what, ELEMENT, () -> x.earliestArrival(from, to, 0));
    Check.fails("31 " + what, ELEMENT, () -> x.earliestArrivalByRounds(from, to, 0));
    Check.fails("32 " + what, ELEMENT, () -> x.fewestBoardings(from, to));
    Check.fails("33 " + what, ELEMENT, () -> x.fewestBoardingsByTable(from, to));
    Check.same("52 " + what, true, x.isConsistent());
  }

  private static void flows(RingTransit x, String what, int from, int to, int want) {
    Check.same("34 " + what, want, x.flow(from, to));
    Check.same("35 " + what, want, x.smallestCut(from, to));
  }

  private static void oneRide() {
    RingTransit x = withStops(9, 9, 9);
    line(x, 10, 3, 2, 1, 0, 1, 2);
    arrives(x, "first trip, no transfer at the start", 0, 1, 0, 5);
    arrives(x, "just in time", 0, 1, 3, 5);
    arrives(x, "a minute late", 0, 1, 4, 15);
    arrives(x, "two hops", 0, 2, 0, 7);
    arrives(x, "to the end of the ring", 2, 0, 0, 9);
    arrives(x, "round the end needs a second trip", 2, 1, 0, 25);
    arrives(x, "late in the day", 0, 1, 9999, 10005);
    boards(x, "one", 0, 2, 1);
    boards(x, "to the end of the ring", 2, 0, 1);
    boards(x, "round the end", 2, 1, 2);
  }

  private static void sameStop() {
    RingTransit x = withStops(4, 4);
    arrives(x, "same stop", 1, 1, 77, 77);
    boards(x, "same stop", 1, 1, 0);
    x.setClosed(1, true);
    arrives(x, "same stop, closed", 1, 1, 0, 0);
    boards(x, "same stop, closed", 1, 1, 0);
    noWay(x, "nothing leads there", 0, 1);
  }

  private static void transfers() {
    RingTransit x = withStops(0, 5, 0);
    line(x, 60, 0, 3, 1, 0, 1);
    line(x, 1, 4, 2, 1, 1, 2);
    arrives(x, "a transfer takes its minutes", 0, 2, 0, 3 + 5 + 2);
    boards(x, "a transfer", 0, 2, 2);
    arrives(x, "the first ride needs no transfer", 1, 2, 5, 7);
    RingTransit y = withStops(0, 0, 0);
    line(y, 60, 0, 3, 1, 0, 1);
    line(y, 60, 3, 2, 1, 1, 2);
    arrives(y, "a transfer without minutes", 0, 2, 0, 5);
  }

  private static void walks() {
    RingTransit x = withStops(0, 9, 9, 0);
    line(x, 60, 0, 3, 1, 0, 1);
    x.addWalk(1, 2, 4);
    line(x, 60, 7, 5, 1, 2, 3);
    arrives(x, "a walk right after a ride, and ready at once", 0, 3, 0, 12);
    boards(x, "walks are no boardings", 0, 3, 2);
    boards(x, "only a walk", 1, 2, 0);
    arrives(x, "the walk back", 2, 1, 100, 104);
    x.setClosed(0, true);
    noWay(x, "the walk does not lead to 0", 2, 0);
  }

  private static void walkToAndFroSavesTheTransfer() {
    RingTransit x = withStops(0, 9, 0, 0);
    line(x, 60, 0, 3, 1, 0, 1);
    line(x, 1, 0, 1, 1, 1, 3);
    x.addWalk(1, 2, 1);
    arrives(x, "there and back in 2 minutes", 0, 3, 0, 6);
  }

  private static void closedStops() {
    RingTransit x = withStops(0, 0, 0, 0);
    line(x, 10, 0, 2, 1, 0, 1, 2);
    x.addWalk(2, 3, 6);
    x.setClosed(1, true);
    arrives(x, "a ride passes a closed stop", 0, 2, 0, 4);
    boards(x, "past a closed stop", 0, 2, 1);
    noWay(x, "ends at a closed stop", 0, 1);
    noWay(x, "begins at a closed stop", 1, 2);
    flows(x, "through a closed stop", 0, 2, 1);
    flows(x, "to a closed stop", 0, 1, 1);
    arrives(x, "a walk after it", 0, 3, 0, 10);
    x.setClosed(2, true);
    noWay(x, "no walk from a closed stop", 0, 3);
    x.setClosed(2, false);
    x.setClosed(0, true);
    noWay(x, "no change at a closed stop", 2, 1);
    x.setClosed(1, false);
    noWay(x, "no change at the closed end of the ring", 2, 1);
    arrives(x, "but a ride between others", 1, 2, 0, 4);
  }

  private static void rainAndSuspension() {
    RingTransit x = withStops(0, 0, 0);
    line(x, 10, 0, 2, 3, 0, 1, 2);
    x.setRainDelay(0, 4);
    arrives(x, "dry", 0, 2, 0, 4);
    x.setRain(true);
    arrives(x, "rain", 0, 2, 0, 12);
    arrives(x, "rain delays the trip on its way too", 1, 2, 3, 12);
    x.setSuspended(0, true);
    noWay(x, "suspended", 0, 2);
    flows(x, "suspended", 0, 2, 0);
    x.addWalk(0, 2, 30);
    arrives(x, "on foot", 0, 2, 0, 30);
    boards(x, "on foot", 0, 2, 0);
    flows(x, "nobody walks", 0, 2, 0);
  }

  private static void manyBoardings() {
    RingTransit x = withStops(0, 0, 0, 0, 0, 0);
    for (int line = 0; line < 5; line++) {
      line(x, 7, line, 3, line + 1, line, line + 1);
    }
    boards(x, "five", 0, 5, 5);
    boards(x, "five back", 5, 0, 5);
    flows(x, "the narrowest", 0, 5, 1);
    flows(x, "the narrowest of the last ones", 2, 5, 3);
    x.addWalk(1, 4, 9);
    boards(x, "with a walk", 0, 5, 2);
  }

  private static void soleLineBackwards() {
    RingTransit x = withStops(0, 0, 0, 0, 0, 0, 0, 0, 0, 0);
    line(x, 5, 0, 1, 2, 9, 8, 7, 6, 5, 4);
    line(x, 5, 0, 1, 2, 4, 3, 2, 1, 0);
    boards(x, "over the common stop", 9, 0, 2);
    boards(x, "back, over both ends", 0, 9, 2);
    boards(x, "to the stop before", 5, 6, 2);
    boards(x, "to the stop before, and on", 1, 5, 3);
    noWay(withStops(0, 0), "no lines", 0, 1);
  }

  private static void flowAddsLines() {
    RingTransit x = withStops(0, 0, 0, 0);
    line(x, 10, 0, 2, 4, 0, 1, 2);
    line(x, 10, 0, 2, 2, 0, 1, 3);
    flows(x, "two lines", 0, 1, 6);
    flows(x, "one of two", 0, 2, 4);
    flows(x, "back round the ring", 1, 0, 6);
    flows(x, "back round one ring", 2, 1, 4);
    flows(x, "from one line to the other", 3, 2, 2);
    RingTransit y = withStops(0, 0, 0);
    flows(y, "no lines", 0, 2, 0);
    line(y, 10, 0, 2, 4, 0);
    flows(y, "a ring of one stop", 0, 2, 0);
  }

  /** The short way first would block one of two ways; a traveller must give way. */
  private static void flowGivesWay() {
    RingTransit x = withStops(0, 0, 0, 0, 0, 0);
    line(x, 10, 0, 2, 1, 0, 1, 2, 3);
    line(x, 10, 0, 2, 1, 0, 4, 2);
    line(x, 10, 0, 2, 1, 1, 5, 3);
    flows(x, "two ways", 0, 3, 2);
    x.addLine(10, 0, 2, 20);
    x.extendLine(3, 0);
    x.extendLine(3, 3);
    flows(x, "and a great one", 0, 3, 22);
  }

  private static void thirtyHops() {
    RingTransit x = withStops(0, 0, 0, 0, 0, 0, 0, 0, 0, 0);
    for (int line = 0; line < 5; line++) {
      line(x, 10, 0, 2, 20, 4, 5, 6, 7, 8, 9);
    }
    flows(x, "all seats", 4, 9, 100);
    flows(x, "all seats on the last hop", 9, 4, 100);
    flows(x, "off all lines", 0, 4, 0);
  }

  /** Only the arrival at 0 gets better in the second round, not when the traveller is ready. */
  private static void soonerThereButNotReadySooner() {
    RingTransit x = withStops(9, 0, 0, 0);
    line(x, 60, 0, 5, 1, 3, 2);
    line(x, 60, 5, 3, 1, 2, 0);
    x.addWalk(3, 0, 12);
    x.addWalk(3, 1, 11);
    x.addWalk(0, 1, 1);
    arrives(x, "a walk after the second ride", 3, 1, 0, 9);
    arrives(x, "there sooner", 3, 0, 0, 8);
  }

  private static void wrongArguments() {
    RingTransit x = withStops(0, 0);
    for (int stop : new int[] {-1, 2, Integer.MIN_VALUE, Integer.MAX_VALUE, 64}) {
      Check.fails("30 from", INDEX, () -> x.earliestArrival(stop, 0, -1));
      Check.fails("30 to", INDEX, () -> x.earliestArrival(0, stop, 0));
      Check.fails("31 from", INDEX, () -> x.earliestArrivalByRounds(stop, 0, 0));
      Check.fails("31 to", INDEX, () -> x.earliestArrivalByRounds(0, stop, 10000));
      Check.fails("32 from", INDEX, () -> x.fewestBoardings(stop, 0));
      Check.fails("32 to", INDEX, () -> x.fewestBoardings(0, stop));
      Check.fails("33 from", INDEX, () -> x.fewestBoardingsByTable(stop, stop));
      Check.fails("33 to", INDEX, () -> x.fewestBoardingsByTable(0, stop));
      Check.fails("34 both", INDEX, () -> x.flow(stop, stop));
      Check.fails("34 to", INDEX, () -> x.flow(0, stop));
      Check.fails("35 both", INDEX, () -> x.smallestCut(stop, stop));
      Check.fails("35 from", INDEX, () -> x.smallestCut(stop, 0));
    }
    for (int minute : new int[] {-1, 10000, Integer.MIN_VALUE, Integer.MAX_VALUE}) {
      Check.fails("30 minute", ARGUMENT, () -> x.earliestArrival(0, 1, minute));
      Check.fails("31 minute", ARGUMENT, () -> x.earliestArrivalByRounds(0, 1, minute));
      Check.fails("30 minute, same stop", ARGUMENT, () -> x.earliestArrival(1, 1, minute));
      Check.fails("31 minute, same stop", ARGUMENT, () -> x.earliestArrivalByRounds(1, 1, minute));
    }
    Check.fails("34 same", ARGUMENT, () -> x.flow(1, 1));
    Check.fails("35 same", ARGUMENT, () -> x.smallestCut(0, 0));
  }

  private static void consistentLate() {
    RingTransit x = withStops(1, 2, 3);
    line(x, 7, 1, 2, 2, 0, 1, 2);
    x.sellTicket(0, 99, 0, 3);
    x.sellTicket(0, 99, 1, 2);
    for (int call = 0; call < 90; call++) {
      x.advance(120);
    }
    Check.same("52 beyond minute 9999", true, x.isConsistent());
    RingTransit y = withStops(1);
    Check.same("52 one stop", true, y.isConsistent());
  }

  public static void main(String[] args) {
    oneRide();
    sameStop();
    transfers();
    walks();
    walkToAndFroSavesTheTransfer();
    closedStops();
    rainAndSuspension();
    manyBoardings();
    soleLineBackwards();
    flowAddsLines();
    flowGivesWay();
    thirtyHops();
    soonerThereButNotReadySooner();
    wrongArguments();
    consistentLate();
    Check.end("JourneysTest");
  }
}
