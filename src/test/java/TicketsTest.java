import java.util.NoSuchElementException;

/** Promises 12 to 14 and 36 to 51: tickets, seats, accounts, rankings, means. */
public final class TicketsTest {
  private static final Class<?> INDEX = IndexOutOfBoundsException.class;
  private static final Class<?> ARGUMENT = IllegalArgumentException.class;
  private static final Class<?> STATE = IllegalStateException.class;
  private static final Class<?> ELEMENT = NoSuchElementException.class;
  private static final Class<?> UNSUPPORTED = UnsupportedOperationException.class;

  private TicketsTest() {
  }

  /** A line every 10 minutes, 4 minutes a hop, with the seats given, round stops 0, 1, 2. */
  private static RingTransit withRing(int seats) {
    RingTransit x = new RingTransit();
    for (int stop = 0; stop < 4; stop++) {
      x.addStop(0);
    }
    x.addLine(10, 0, 4, seats);
    x.extendLine(0, 0);
    x.extendLine(0, 1);
    x.extendLine(0, 2);
    return x;
  }

  private static void free(RingTransit x, String what, int trip, int from, int to, int want) {
    Check.same("36 " + what, want, x.freeSeats(0, trip, from, to));
    Check.same("37 " + what, want, x.freeSeatsBySweep(0, trip, from, to));
    Check.same("52 " + what, true, x.isConsistent());
  }

  private static void sale() {
    RingTransit x = withRing(2);
    Check.same("12 first id", 0, x.sellTicket(0, 99, 1, 3));
    Check.same("40", 0, x.ticketLine(0));
    Check.same("41", 99, x.ticketTrip(0));
    Check.same("42", 1, x.ticketFrom(0));
    Check.same("43", 3, x.ticketTo(0));
    Check.same("44", 6, x.ticketPrice(0));
    x.setRain(true);
    Check.same("12 next id", 1, x.sellTicket(0, 0, 0, 3));
    Check.same("44 in rain", 6, x.ticketPrice(1));
    Check.same("44 stays", 6, x.ticketPrice(0));
    Check.same("45", 12, x.income());
    Check.same("38", 2, x.ticketCount());
    x.setClosed(0, true);
    x.setClosed(1, true);
    Check.same("12 closed stops", 2, x.sellTicket(0, 0, 0, 1));
    Check.same("45 in rain", 14, x.income());
    Check.same("50", 14.0 / 3.0, x.meanPrice());
  }

  private static void wrongSales() {
    RingTransit x = withRing(1);
    Check.fails("12 line", INDEX, () -> x.sellTicket(1, -1, 0, 1));
    Check.fails("12 line below", INDEX, () -> x.sellTicket(-1, 0, 0, 1));
    int[][] rides = {
      {-1, 0, 1}, {100, 0, 1}, {0, -1, 1}, {0, 1, 1}, {0, 2, 1}, {0, 0, 4}, {0, 3, 4},
      {Integer.MAX_VALUE, 0, 1}, {0, Integer.MIN_VALUE, 1}, {0, 0, Integer.MAX_VALUE},
    };
    for (int[] ride : rides) {
      Check.fails("12 ride", ARGUMENT, () -> x.sellTicket(0, ride[0], ride[1], ride[2]));
      Check.fails("36 ride", ARGUMENT, () -> x.freeSeats(0, ride[0], ride[1], ride[2]));
      Check.fails("37 ride", ARGUMENT, () -> x.freeSeatsBySweep(0, ride[0], ride[1], ride[2]));
    }
    Check.fails("36 line", INDEX, () -> x.freeSeats(1, -1, 0, 1));
    Check.fails("37 line", INDEX, () -> x.freeSeatsBySweep(-1, 0, 0, 9));
    x.sellTicket(0, 5, 0, 2);
    Check.fails("12 sold out", UNSUPPORTED, () -> x.sellTicket(0, 5, 1, 3));
    Check.same("12 from where the other ends", 1, x.sellTicket(0, 5, 2, 3));
    x.setSuspended(0, true);
    Check.fails("12 suspended", STATE, () -> x.sellTicket(0, 5, 0, 3));
    Check.fails("12 suspended comes later", ARGUMENT, () -> x.sellTicket(0, 5, 0, 4));
    x.addLine(1, 0, 1, 20);
    Check.fails("12 no ring", ARGUMENT, () -> x.sellTicket(1, 0, 0, 1));
    x.extendLine(1, 3);
    Check.fails("12 ring of one", STATE, () -> x.sellTicket(1, 0, 0, 1));
    Check.same("36 ring of one", 20, x.freeSeats(1, 0, 0, 1));
    Check.same("37 ring of one", 20, x.freeSeatsBySweep(1, 0, 0, 1));
    Check.same("12 nothing was sold", 2, x.ticketCount());
  }

  private static void seats() {
    RingTransit x = withRing(3);
    free(x, "all", 7, 0, 3, 3);
    x.sellTicket(0, 7, 0, 1);
    x.sellTicket(0, 7, 2, 3);
    free(x, "one each, not two", 7, 0, 3, 2);
    free(x, "none between", 7, 1, 2, 3);
    x.sellTicket(0, 7, 0, 3);
    free(x, "two at most", 7, 0, 3, 1);
    free(x, "one", 7, 1, 2, 2);
    free(x, "other trip", 6, 0, 3, 3);
    x.sellTicket(0, 7, 0, 1);
    free(x, "full", 7, 0, 1, 0);
    free(x, "full somewhere", 7, 0, 3, 0);
    free(x, "behind it", 7, 1, 3, 1);
    x.refund(2);
    free(x, "after a refund", 7, 0, 3, 1);
  }

  private static void sixteenTickets() {
    RingTransit x = withRing(20);
    for (int ticket = 0; ticket < 16; ticket++) {
      Check.same("12 id", ticket, x.sellTicket(0, ticket, 0, 1));
    }
    Check.fails("12 sixteen", STATE, () -> x.sellTicket(0, 50, 0, 1));
    Check.fails("12 order", ARGUMENT, () -> x.sellTicket(0, 100, 0, 1));
    Check.same("13", 3, x.refund(15));
    Check.same("12 ids are not used again", 16, x.sellTicket(0, 50, 0, 1));
    Check.same("39 last", 16, x.ticketAt(15));
    Check.fails("39 beyond", INDEX, () -> x.ticketAt(16));
    Check.same("52", true, x.isConsistent());
  }

  private static void refunds() {
    RingTransit x = withRing(5);
    Check.fails("13 none", ELEMENT, () -> x.refund(0));
    for (int ticket = 0; ticket < 4; ticket++) {
      x.sellTicket(0, 90, 0, 1 + ticket % 3);
    }
    Check.same("13 price", 6, x.refund(1));
    Check.same("45", 3 + 9 + 3, x.income());
    Check.same("46", 6, x.refundedCoins());
    Check.same("47", 0, x.usedTickets());
    Check.fails("13 gone", ELEMENT, () -> x.refund(1));
    Check.fails("13 never sold", ELEMENT, () -> x.refund(4));
    Check.fails("13 below", ELEMENT, () -> x.refund(-1));
    Check.same("39 first", 0, x.ticketAt(0));
    Check.same("39 after the gap", 2, x.ticketAt(1));
    Check.same("39 last", 3, x.ticketAt(2));
    Check.fails("39 beyond", INDEX, () -> x.ticketAt(3));
    Check.fails("39 below", INDEX, () -> x.ticketAt(-1));
    Check.same("43 behind the gap", 3, x.ticketTo(2));
    x.setRain(true);
    Check.same("13 the price that was paid", 9, x.refund(2));
    Check.same("46 both", 15, x.refundedCoins());
    Check.same("45 rest", 6, x.income());
  }

  private static void unknownTickets() {
    RingTransit x = withRing(5);
    x.sellTicket(0, 90, 0, 1);
    x.refund(x.sellTicket(0, 90, 0, 1));
    for (int ticket : new int[] {-1, 1, 2, Integer.MIN_VALUE, Integer.MAX_VALUE}) {
      Check.fails("40 unknown", ELEMENT, () -> x.ticketLine(ticket));
      Check.fails("41 unknown", ELEMENT, () -> x.ticketTrip(ticket));
      Check.fails("42 unknown", ELEMENT, () -> x.ticketFrom(ticket));
      Check.fails("43 unknown", ELEMENT, () -> x.ticketTo(ticket));
      Check.fails("44 unknown", ELEMENT, () -> x.ticketPrice(ticket));
      Check.fails("54 unknown", ELEMENT, () -> x.renderTicket(ticket));
    }
  }

  private static void use() {
    RingTransit x = withRing(5);
    x.sellTicket(0, 1, 0, 2);
    x.sellTicket(0, 1, 0, 1);
    x.sellTicket(0, 1, 1, 3);
    Check.fails("14 low", ARGUMENT, () -> x.advance(0));
    Check.fails("14 high", ARGUMENT, () -> x.advance(121));
    Check.fails("14 below", ARGUMENT, () -> x.advance(Integer.MIN_VALUE));
    Check.same("14 none yet", 0, x.advance(13));
    Check.same("14 to the minute", 1, x.advance(1));
    Check.fails("14 no longer exists", ELEMENT, () -> x.ticketLine(1));
    Check.same("38 rest", 2, x.ticketCount());
    Check.same("14 both", 2, x.advance(120));
    Check.same("47", 3, x.usedTickets());
    Check.same("45 stays", 6 + 3 + 6, x.income());
    Check.same("46 none", 0, x.refundedCoins());
    Check.same("12 a trip that is over", 3, x.sellTicket(0, 0, 0, 1));
    Check.same("38 it exists", 1, x.ticketCount());
    x.setSuspended(0, true);
    Check.same("14 with the next minute, though suspended", 1, x.advance(1));
  }

  private static void useInTheWeatherOfTheMinute() {
    RingTransit x = withRing(5);
    x.setRainDelay(0, 5);
    x.sellTicket(0, 0, 0, 2);
    x.setRain(true);
    Check.same("14 the rain delays it", 0, x.advance(17));
    x.setRain(false);
    Check.same("14 not without a minute", 1, x.ticketCount());
    Check.same("14 overdue", 1, x.advance(1));
  }

  private static void lineRanks() {
    RingTransit x = withRing(5);
    Check.same("48 alone", 0, x.lineByTickets(0));
    x.addLine(10, 0, 1, 4);
    x.addLine(10, 0, 1, 4);
    x.addLine(10, 0, 1, 9);
    x.extendLine(3, 0);
    x.extendLine(3, 1);
    x.sellTicket(3, 0, 0, 1);
    x.sellTicket(3, 0, 0, 1);
    x.sellTicket(0, 0, 0, 1);
    int[] order = {3, 0, 1, 2};
    for (int rank = 0; rank < 4; rank++) {
      Check.same("48 rank", order[rank], x.lineByTickets(rank));
    }
    x.refund(0);
    Check.same("48 fewer seats first", 0, x.lineByTickets(0));
    Check.same("48 more seats later", 3, x.lineByTickets(1));
    Check.fails("48 beyond", ELEMENT, () -> x.lineByTickets(4));
    Check.fails("48 below", ELEMENT, () -> x.lineByTickets(-1));
    Check.fails("48 none", ELEMENT, () -> new RingTransit().lineByTickets(0));
  }

  private static void stopRanks() {
    RingTransit x = withRing(5);
    x.addStop(0);
    x.addStop(0);
    x.addLine(10, 0, 1, 4);
    x.extendLine(1, 2);
    x.setSuspended(1, true);
    x.addWalk(5, 1, 3);
    x.addWalk(5, 4, 3);
    x.setClosed(5, true);
    int[] order = {2, 1, 0, 5, 4, 3};
    for (int rank = 0; rank < 6; rank++) {
      Check.same("49 rank", order[rank], x.stopByLines(rank));
    }
    Check.fails("49 beyond", ELEMENT, () -> x.stopByLines(6));
    Check.fails("49 below", ELEMENT, () -> x.stopByLines(-1));
    Check.fails("49 none", ELEMENT, () -> new RingTransit().stopByLines(0));
  }

  private static void shares() {
    Check.fails("51 no stops", ArithmeticException.class, () -> new RingTransit().closedShare());
    RingTransit x = withRing(5);
    Check.fails("50 no tickets", ArithmeticException.class, x::meanPrice);
    Check.same("51 none", 0.0f, x.closedShare());
    x.setClosed(3, true);
    Check.same("51 a quarter", 0.25f, x.closedShare());
    x.addStop(0);
    x.addStop(0);
    Check.same("51 a sixth", 1.0f / 6.0f, x.closedShare());
    x.sellTicket(0, 0, 0, 1);
    Check.same("50 one", 3.0, x.meanPrice());
    x.sellTicket(0, 0, 0, 2);
    Check.same("50 two", 4.5, x.meanPrice());
    x.advance(120);
    Check.fails("50 none left", ArithmeticException.class, x::meanPrice);
  }

  public static void main(String[] args) {
    sale();
    wrongSales();
    seats();
    sixteenTickets();
    refunds();
    unknownTickets();
    use();
    useInTheWeatherOfTheMinute();
    lineRanks();
    stopRanks();
    shares();
    Check.end("TicketsTest");
  }
}
