/** Each boundary that promises 12 to 14 and 36 to 51 name, with a test of its own. */
public final class TicketBoundsTest {
  private static final int[][] WRONG_RIDES = {
    {-1, 0, 1}, {100, 0, 1}, {Twins.LEAST, 0, 1}, {Twins.GREATEST, 0, 1},
    {0, -1, 1}, {0, -1, 0}, {0, Twins.LEAST, 1}, {0, -1, 7},
    {0, 0, 0}, {0, 1, 1}, {0, 6, 6}, {0, 2, 1}, {0, 5, 0}, {0, 0, -1}, {0, 0, Twins.LEAST},
    {0, Twins.GREATEST, Twins.LEAST}, {0, Twins.GREATEST, 6},
    {0, 0, 7}, {0, 5, 7}, {0, 6, 7}, {0, 0, Twins.GREATEST}, {0, Twins.LEAST, Twins.GREATEST},
  };

  private TicketBoundsTest() {
  }

  /** Line 0 with 3 seats round six stops, 10 minutes apart, 4 a hop; line 1 empty, line 2 of one stop. */
  private static void ring(RingTransit x) {
    Twins.stops(x, 7);
    Twins.line(x, 10, 0, 4, 3, 0, 1, 2, 3, 4, 5);
    Twins.line(x, 10, 0, 4, 20);
    Twins.line(x, 10, 0, 4, 20, 6);
  }

  private static void suspendedRing(RingTransit x) {
    ring(x);
    x.setSuspended(0, true);
  }

  /** The one hop from position 2 to 3 of trip 5 is sold out. */
  private static void soldOutHop(RingTransit x) {
    ring(x);
    for (int ticket = 0; ticket < 3; ticket++) {
      x.sellTicket(0, 5, 2, 3);
    }
  }

  private static void fifteenTickets(RingTransit x) {
    ring(x);
    for (int ticket = 0; ticket < 15; ticket++) {
      x.sellTicket(0, 80 + ticket, ticket % 6, 6);
    }
  }

  private static void sixteenTickets(RingTransit x) {
    fifteenTickets(x);
    x.sellTicket(0, 95, 0, 1);
  }

  private static void fiveLines(RingTransit x) {
    ring(x);
    x.addLine(1, 0, 1, 20);
    Twins.line(x, 1, 0, 1, 1, 0, 1);
  }

  private static void free(String what, int want, Twins.Build build, int trip, int from, int to) {
    Twins.answers("36 " + what, want, build, x -> x.freeSeats(0, trip, from, to));
    Twins.answers("37 " + what, want, build, x -> x.freeSeatsBySweep(0, trip, from, to));
    Twins.answers("52 " + what, true, build, RingTransit::isConsistent);
  }

  private static void promise12And36And37Rides() {
    for (int[] v : WRONG_RIDES) {
      String what = " trip " + v[0] + ", " + v[1] + " to " + v[2];
      Twins.refused(
          "12" + what, Twins.ARGUMENT, TicketBoundsTest::ring, x -> x.sellTicket(0, v[0], v[1], v[2]));
      Twins.refused(
          "36" + what, Twins.ARGUMENT, TicketBoundsTest::ring, x -> x.freeSeats(0, v[0], v[1], v[2]));
      Twins.refused(
          "37" + what, Twins.ARGUMENT, TicketBoundsTest::ring,
          x -> x.freeSeatsBySweep(0, v[0], v[1], v[2]));
      Twins.refused(
          "12 suspended," + what, Twins.ARGUMENT, TicketBoundsTest::suspendedRing,
          x -> x.sellTicket(0, v[0], v[1], v[2]));
      Twins.refused(
          "12 sixteen tickets," + what, Twins.ARGUMENT, TicketBoundsTest::sixteenTickets,
          x -> x.sellTicket(0, v[0], v[1], v[2]));
      Twins.refused(
          "12 no line," + what, Twins.INDEX, TicketBoundsTest::ring,
          x -> x.sellTicket(3, v[0], v[1], v[2]));
      Twins.refused(
          "36 no line," + what, Twins.INDEX, TicketBoundsTest::ring,
          x -> x.freeSeats(3, v[0], v[1], v[2]));
      Twins.refused(
          "37 no line," + what, Twins.INDEX, TicketBoundsTest::ring,
          x -> x.freeSeatsBySweep(-1, v[0], v[1], v[2]));
    }
    int[][] right = {{0, 0, 1}, {99, 0, 1}, {0, 5, 6}, {99, 0, 6}, {1, 2, 5}};
    for (int[] v : right) {
      String what = " trip " + v[0] + ", " + v[1] + " to " + v[2];
      Twins.answers("12" + what, 0, TicketBoundsTest::ring, x -> x.sellTicket(0, v[0], v[1], v[2]));
      Twins.answers("36" + what, 3, TicketBoundsTest::ring, x -> x.freeSeats(0, v[0], v[1], v[2]));
      Twins.answers("37" + what, 3, TicketBoundsTest::ring, x -> x.freeSeatsBySweep(0, v[0], v[1], v[2]));
      RingTransit x = Twins.made(TicketBoundsTest::ring);
      int id = x.sellTicket(0, v[0], v[1], v[2]);
      Check.same("40" + what, 0, x.ticketLine(id));
      Check.same("41" + what, v[0], x.ticketTrip(id));
      Check.same("42" + what, v[1], x.ticketFrom(id));
      Check.same("43" + what, v[2], x.ticketTo(id));
      Check.same("44" + what, 3 * (v[2] - v[1]), x.ticketPrice(id));
    }
  }

  private static void promise12And36And37EmptyRing() {
    Twins.refused("12 no stops", Twins.ARGUMENT, TicketBoundsTest::ring, x -> x.sellTicket(1, 0, 0, 1));
    Twins.refused("36 no stops", Twins.ARGUMENT, TicketBoundsTest::ring, x -> x.freeSeats(1, 0, 0, 1));
    Twins.refused("37 no stops", Twins.ARGUMENT, TicketBoundsTest::ring, x -> x.freeSeatsBySweep(1, 0, 0, 1));
    Twins.refused("12 no stops, 0 to 0", Twins.ARGUMENT, TicketBoundsTest::ring, x -> x.sellTicket(1, 0, 0, 0));
    Twins.refused("36 no stops, 0 to 0", Twins.ARGUMENT, TicketBoundsTest::ring, x -> x.freeSeats(1, 0, 0, 0));
    Twins.refused("37 no stops, 0 to 0", Twins.ARGUMENT, TicketBoundsTest::ring, x -> x.freeSeatsBySweep(1, 0, 0, 0));
  }

  private static void promise12And36And37RingOfOne() {
    Twins.refused("12 one stop", Twins.STATE, TicketBoundsTest::ring, x -> x.sellTicket(2, 0, 0, 1));
    Twins.refused("12 one stop, 0 to 2", Twins.ARGUMENT, TicketBoundsTest::ring, x -> x.sellTicket(2, 0, 0, 2));
    Twins.answers("36 one stop", 20, TicketBoundsTest::ring, x -> x.freeSeats(2, 0, 0, 1));
    Twins.answers("37 one stop", 20, TicketBoundsTest::ring, x -> x.freeSeatsBySweep(2, 0, 0, 1));
    Twins.refused("36 one stop, 0 to 2", Twins.ARGUMENT, TicketBoundsTest::ring, x -> x.freeSeats(2, 0, 0, 2));
    Twins.refused("37 one stop, 0 to 2", Twins.ARGUMENT, TicketBoundsTest::ring, x -> x.freeSeatsBySweep(2, 0, 0, 2));
    Twins.answers("12 two stops", 0, TicketBoundsTest::ring, x -> {
      x.extendLine(2, 0);
      return x.sellTicket(2, 0, 1, 2);
    });
  }

  private static void promise12And36And37Lines() {
    Twins.refusedLines("12", TicketBoundsTest::ring, 3, (x, line) -> x.sellTicket(line, 0, 0, 1));
    Twins.refusedLines("12", TicketBoundsTest::fiveLines, 5, (x, line) -> x.sellTicket(line, 0, 0, 1));
    Twins.refusedLines("12", Twins::empty, 0, (x, line) -> x.sellTicket(line, 0, 0, 1));
    Twins.refusedLines("12", TicketBoundsTest::sixteenTickets, 3, (x, line) -> x.sellTicket(line, 0, 0, 1));
    Twins.refusedLines("36", TicketBoundsTest::ring, 3, (x, line) -> x.freeSeats(line, 0, 0, 1));
    Twins.refusedLines("36", TicketBoundsTest::fiveLines, 5, (x, line) -> x.freeSeats(line, 0, 0, 1));
    Twins.refusedLines("36", Twins::empty, 0, (x, line) -> x.freeSeats(line, 0, 0, 1));
    Twins.refusedLines("37", TicketBoundsTest::ring, 3, (x, line) -> x.freeSeatsBySweep(line, 0, 0, 1));
    Twins.refusedLines("37", TicketBoundsTest::fiveLines, 5, (x, line) -> x.freeSeatsBySweep(line, 0, 0, 1));
    Twins.refusedLines("37", Twins::empty, 0, (x, line) -> x.freeSeatsBySweep(line, 0, 0, 1));
    Twins.answers("12 the greatest line", 4, TicketBoundsTest::fiveLines, x -> x.ticketLine(x.sellTicket(4, 0, 0, 1)));
    Twins.answers("36 the greatest line", 1, TicketBoundsTest::fiveLines, x -> x.freeSeats(4, 0, 0, 2));
    Twins.answers("37 the greatest line", 1, TicketBoundsTest::fiveLines, x -> x.freeSeatsBySweep(4, 0, 0, 2));
  }

  private static void promise12Suspended() {
    Twins.refused("12 suspended", Twins.STATE, TicketBoundsTest::suspendedRing, x -> x.sellTicket(0, 0, 0, 1));
    Twins.answers("12 no longer suspended", 0, TicketBoundsTest::suspendedRing, x -> {
      x.setSuspended(0, false);
      return x.sellTicket(0, 0, 0, 1);
    });
    free("suspended", 3, TicketBoundsTest::suspendedRing, 0, 0, 6);
    Twins.refused("12 suspended and sold out", Twins.STATE, y -> {
      soldOutHop(y);
      y.setSuspended(0, true);
    }, x -> x.sellTicket(0, 5, 2, 3));
  }

  private static void promise12ClosedStops() {
    Twins.answers("12 closed stops", 0, y -> {
      ring(y);
      for (int stop = 0; stop < 6; stop++) {
        y.setClosed(stop, true);
      }
    }, x -> x.sellTicket(0, 0, 0, 6));
  }

  private static void promise12SixteenTickets() {
    Twins.answers("12 the sixteenth", 15, TicketBoundsTest::fifteenTickets, x -> x.sellTicket(0, 95, 0, 1));
    Twins.answers("38 fifteen", 15, TicketBoundsTest::fifteenTickets, RingTransit::ticketCount);
    Twins.answers("38 sixteen", 16, TicketBoundsTest::sixteenTickets, RingTransit::ticketCount);
    Twins.refused(
        "12 the seventeenth", Twins.STATE, TicketBoundsTest::sixteenTickets,
        x -> x.sellTicket(0, 0, 0, 1));
    Twins.refused("12 sixteen tickets and no seat", Twins.STATE, y -> {
      soldOutHop(y);
      for (int ticket = 3; ticket < 16; ticket++) {
        y.sellTicket(0, ticket, 0, 1);
      }
    }, x -> x.sellTicket(0, 5, 2, 3));
    Twins.answers("12 after a refund", 16, TicketBoundsTest::sixteenTickets, x -> {
      x.refund(0);
      return x.sellTicket(0, 0, 0, 1);
    });
    Twins.answers("12 after use", 16, y -> {
      fifteenTickets(y);
      y.sellTicket(0, 0, 0, 1);
    }, x -> {
      Check.same("14 one of sixteen", 1, x.advance(4));
      return x.sellTicket(0, 0, 0, 1);
    });
  }

  private static void promise12NoSeat() {
    int[][] over = {{2, 3}, {0, 3}, {2, 6}, {0, 6}, {1, 4}};
    for (int[] v : over) {
      Twins.refused(
          "12 no seat from " + v[0] + " to " + v[1], Twins.UNSUPPORTED, TicketBoundsTest::soldOutHop,
          x -> x.sellTicket(0, 5, v[0], v[1]));
      free("no seat from " + v[0] + " to " + v[1], 0, TicketBoundsTest::soldOutHop, 5, v[0], v[1]);
    }
    int[][] beside = {{0, 2}, {1, 2}, {3, 4}, {3, 6}};
    for (int[] v : beside) {
      Twins.answers(
          "12 seats from " + v[0] + " to " + v[1], 3, TicketBoundsTest::soldOutHop,
          x -> x.sellTicket(0, 5, v[0], v[1]));
      free("seats from " + v[0] + " to " + v[1], 3, TicketBoundsTest::soldOutHop, 5, v[0], v[1]);
    }
    Twins.answers("12 the trip before", 3, TicketBoundsTest::soldOutHop, x -> x.sellTicket(0, 4, 0, 6));
    Twins.answers("12 the trip after", 3, TicketBoundsTest::soldOutHop, x -> x.sellTicket(0, 6, 0, 6));
    free("the trip before", 3, TicketBoundsTest::soldOutHop, 4, 0, 6);
    free("the trip after", 3, TicketBoundsTest::soldOutHop, 6, 0, 6);
    Twins.answers("12 the seat was given back", 3, TicketBoundsTest::soldOutHop, x -> {
      x.refund(1);
      return x.sellTicket(0, 5, 2, 3);
    });
  }

  private static void promise12SeatsOfALine() {
    for (int seats : new int[] {1, 20}) {
      RingTransit x = Twins.made(y -> Twins.stops(y, 2));
      Twins.line(x, 10, 0, 1, seats, 0, 1);
      Twins.line(x, 10, 0, 1, 1, 1, 0);
      int most = Math.min(seats, 15);
      for (int sold = 0; sold < most; sold++) {
        Check.same("36 of " + seats + " after " + sold, seats - sold, x.freeSeats(0, 0, 0, 2));
        Check.same("37 of " + seats + " after " + sold, seats - sold, x.freeSeatsBySweep(0, 0, 0, 2));
        Check.same("12 of " + seats + " after " + sold, sold, x.sellTicket(0, 0, 0, 2));
      }
      Check.same("36 of " + seats + " after the last", seats - most, x.freeSeats(0, 0, 0, 1));
      Check.same("37 of " + seats + " after the last", seats - most, x.freeSeatsBySweep(0, 0, 1, 2));
      Check.same("36 another line has its own", 1, x.freeSeats(1, 0, 0, 2));
      Check.same("37 another line has its own", 1, x.freeSeatsBySweep(1, 0, 0, 2));
      Check.same("12 another line has its own", most, x.sellTicket(1, 0, 0, 2));
      Check.same("52 of " + seats, true, x.isConsistent());
    }
  }

  private static void promise12Prices() {
    for (int hops = 1; hops <= 6; hops++) {
      int to = hops;
      Twins.answers("44 dry, hops " + hops, 3 * hops, TicketBoundsTest::ring, x -> x.ticketPrice(x.sellTicket(0, 0, 0, to)));
      Twins.answers("44 rain, hops " + hops, 2 * hops, y -> {
        ring(y);
        y.setRain(true);
      }, x -> x.ticketPrice(x.sellTicket(0, 0, 0, to)));
    }
    Twins.answers("44 sold dry, now rain", 18, TicketBoundsTest::ring, x -> {
      x.sellTicket(0, 0, 0, 6);
      x.setRain(true);
      return x.ticketPrice(0);
    });
  }

  private static void promise12Ids() {
    RingTransit x = Twins.made(TicketBoundsTest::ring);
    for (int id = 0; id < 40; id++) {
      Check.same("12 id " + id, id, x.sellTicket(0, 0, 0, 1));
      Check.same("39 the only one", id, x.ticketAt(0));
      x.refund(id);
    }
  }

  private static void promise13And40To44And54UnknownTickets() {
    // Of the tickets of rich, 1 was refunded, and 4 is the next id; 0 is used after 240 minutes.
    int[] unknown = {-1, 1, 4, Twins.LEAST, Twins.GREATEST};
    Twins.refusedTickets("13", Twins::rich, (x, id) -> x.refund(id), unknown);
    Twins.refusedTickets("40", Twins::rich, (x, id) -> x.ticketLine(id), unknown);
    Twins.refusedTickets("41", Twins::rich, (x, id) -> x.ticketTrip(id), unknown);
    Twins.refusedTickets("42", Twins::rich, (x, id) -> x.ticketFrom(id), unknown);
    Twins.refusedTickets("43", Twins::rich, (x, id) -> x.ticketTo(id), unknown);
    Twins.refusedTickets("44", Twins::rich, (x, id) -> x.ticketPrice(id), unknown);
    Twins.refusedTickets("54", Twins::rich, (x, id) -> x.renderTicket(id), unknown);
    Twins.Build later = x -> {
      Twins.rich(x);
      x.advance(120);
      x.advance(120);
    };
    Twins.Build[] builds = {Twins::empty, later};
    for (Twins.Build build : builds) {
      Twins.refusedTickets("13 none is left", build, (x, id) -> x.refund(id), -1, 0, 3);
      Twins.refusedTickets("40 none is left", build, (x, id) -> x.ticketLine(id), -1, 0, 3);
      Twins.refusedTickets("41 none is left", build, (x, id) -> x.ticketTrip(id), -1, 0, 3);
      Twins.refusedTickets("42 none is left", build, (x, id) -> x.ticketFrom(id), -1, 0, 3);
      Twins.refusedTickets("43 none is left", build, (x, id) -> x.ticketTo(id), -1, 0, 3);
      Twins.refusedTickets("44 none is left", build, (x, id) -> x.ticketPrice(id), -1, 0, 3);
      Twins.refusedTickets("54 none is left", build, (x, id) -> x.renderTicket(id), -1, 0, 3);
    }
  }

  private static void promise13Refunds() {
    RingTransit x = Twins.made(TicketBoundsTest::sixteenTickets);
    int income = x.income();
    int refunded = 0;
    for (int id : new int[] {0, 15, 7, 1, 14}) {
      int price = x.ticketPrice(id);
      Check.same("13 the price of " + id, price, x.refund(id));
      refunded += price;
      Check.same("45 less what was refunded", income - refunded, x.income());
      Check.same("46 what was refunded", refunded, x.refundedCoins());
      Check.fails("13 a second time", Twins.ELEMENT, () -> x.refund(id));
    }
    Check.same("38 the rest", 11, x.ticketCount());
    Check.same("39 the first of the rest", 2, x.ticketAt(0));
    Check.same("39 the last of the rest", 13, x.ticketAt(10));
    Check.same("47 refunded is not used", 0, x.usedTickets());
  }

  private static void promise14Minutes() {
    for (int minutes : new int[] {0, 121, -1, Twins.LEAST, Twins.GREATEST}) {
      Twins.refused("14 " + minutes + " minutes", Twins.ARGUMENT, Twins::rich, x -> x.advance(minutes));
    }
    for (int minutes : new int[] {1, 2, 119, 120}) {
      Twins.answers("15 after " + minutes, 4 + minutes, Twins::rich, x -> {
        x.advance(minutes);
        return x.minute();
      });
    }
  }

  private static void promise14UsedInTheMinute() {
    // Trip 2 starts in minute 20 and takes 4 minutes a hop.
    for (int to = 1; to <= 6; to++) {
      int end = 20 + 4 * to;
      RingTransit x = Twins.made(TicketBoundsTest::ring);
      x.sellTicket(0, 2, 0, to);
      Check.same("14 none", 0, x.advance(end - 1));
      Check.same("38 it exists", 1, x.ticketCount());
      Check.same("14 in the minute", 1, x.advance(1));
      Check.same("38 it no longer exists", 0, x.ticketCount());
      Check.same("47 used", 1, x.usedTickets());
      Check.same("45 the price stays", 3 * to, x.income());
      Check.same("14 only once", 0, x.advance(120));
      Check.same("47 only once", 1, x.usedTickets());
    }
    Twins.answers("14 in the last minute of a call", 1, TicketBoundsTest::ring, y -> {
      y.sellTicket(0, 2, 0, 6);
      return y.advance(44);
    });
  }

  private static void promise14LateSale() {
    RingTransit x = Twins.made(TicketBoundsTest::ring);
    x.advance(120);
    x.sellTicket(0, 0, 0, 1);
    Check.same("38 a trip that is over", 1, x.ticketCount());
    Check.same("36 it has a seat", 2, x.freeSeats(0, 0, 0, 1));
    Check.same("14 used with the next minute", 1, x.advance(1));
  }

  private static void promise14PresentWeather() {
    RingTransit x = Twins.made(TicketBoundsTest::ring);
    x.setRainDelay(0, 5);
    x.sellTicket(0, 0, 0, 2);
    x.setRain(true);
    Check.same("14 in rain, dry minute", 0, x.advance(17));
    Check.same("14 in rain, its minute", 1, x.advance(1));
    x.sellTicket(0, 2, 0, 2);
    x.advance(18);
    x.setRain(false);
    Check.same("14 dry, but no minute has begun", 1, x.ticketCount());
    x.setRain(true);
    x.setRain(false);
    Check.same("14 dry, and a minute begins", 1, x.advance(1));
  }

  private static void promise14All() {
    RingTransit x = Twins.made(y -> {
      ring(y);
      for (int ticket = 0; ticket < 16; ticket++) {
        y.sellTicket(0, ticket / 3, 0, 6);
      }
    });
    x.setSuspended(0, true);
    Check.same("14 all sixteen, suspended", 16, x.advance(120));
    Check.same("47 all sixteen", 16, x.usedTickets());
    Check.same("38 none", 0, x.ticketCount());
    Check.same("45 all prices", 16 * 18, x.income());
    Check.same("46 none", 0, x.refundedCoins());
    Check.fails("50 none", Twins.ARITHMETIC, x::meanPrice);
    Check.fails("39 none", Twins.INDEX, () -> x.ticketAt(0));
  }

  private static void promise36And37Rides() {
    Twins.Build build = x -> {
      ring(x);
      x.sellTicket(0, 5, 0, 2);
      x.sellTicket(0, 5, 1, 3);
      x.sellTicket(0, 5, 2, 6);
      x.sellTicket(0, 5, 5, 6);
    };
    int[] left = {2, 1, 1, 2, 2, 1};
    for (int from = 0; from < 6; from++) {
      int least = 3;
      for (int to = from + 1; to <= 6; to++) {
        least = Math.min(least, left[to - 1]);
        free("from " + from + " to " + to, least, build, 5, from, to);
      }
    }
    Twins.answers("36 a line without tickets", 20, TicketBoundsTest::fifteenTickets, x -> {
      x.extendLine(1, 0);
      x.extendLine(1, 1);
      return x.freeSeats(1, 80, 0, 2);
    });
  }

  private static void promise39Positions() {
    for (int position : new int[] {-1, 16, Twins.LEAST, Twins.GREATEST}) {
      Twins.refused(
          "39 position " + position + " of 16", Twins.INDEX, TicketBoundsTest::sixteenTickets,
          x -> x.ticketAt(position));
    }
    for (int position : new int[] {-1, 3, Twins.LEAST, Twins.GREATEST}) {
      Twins.refused("39 position " + position + " of 3", Twins.INDEX, Twins::rich, x -> x.ticketAt(position));
    }
    Twins.refused("39 no tickets", Twins.INDEX, TicketBoundsTest::ring, x -> x.ticketAt(0));
    int[] ids = {0, 2, 3};
    for (int position = 0; position < 3; position++) {
      int asked = position;
      Twins.answers("39 position " + position, ids[position], Twins::rich, x -> x.ticketAt(asked));
    }
    Twins.answers("39 position 15", 15, TicketBoundsTest::sixteenTickets, x -> x.ticketAt(15));
  }

  private static void promise45To47Accounts() {
    RingTransit x = Twins.made(TicketBoundsTest::ring);
    Check.same("45 at first", 0, x.income());
    Check.same("46 at first", 0, x.refundedCoins());
    Check.same("47 at first", 0, x.usedTickets());
    Check.same("38 at first", 0, x.ticketCount());
    x.sellTicket(0, 0, 0, 1);
    Check.same("45 the first", 3, x.income());
    x.refund(0);
    Check.same("45 refunded", 0, x.income());
    Check.same("46 refunded", 3, x.refundedCoins());
    x.setRain(true);
    x.sellTicket(0, 0, 0, 6);
    Check.same("45 in rain", 12, x.income());
    x.setRain(false);
    x.refund(1);
    Check.same("46 the price that was paid", 15, x.refundedCoins());
    Check.same("45 all refunded", 0, x.income());
  }

  private static void promise48Ranks() {
    for (int rank : new int[] {-1, 4, Twins.LEAST, Twins.GREATEST}) {
      Twins.refused("48 rank " + rank + " of 4", Twins.ELEMENT, Twins::rich, x -> x.lineByTickets(rank));
    }
    for (int rank : new int[] {-1, 5}) {
      Twins.refused(
          "48 rank " + rank + " of 5", Twins.ELEMENT, TicketBoundsTest::fiveLines,
          x -> x.lineByTickets(rank));
    }
    // Tickets 2, 1, 0, 0; seats 2, 1, 20, 3.
    ranks("48 rich", Twins::rich, new int[] {0, 1, 3, 2});
    // No tickets; seats 3, 20, 20, 20, 1.
    ranks("48 five lines", TicketBoundsTest::fiveLines, new int[] {4, 0, 1, 2, 3});
    ranks("48 a line that is undone", x -> {
      x.addLine(1, 0, 1, 3);
      x.addLine(1, 0, 1, 2);
      x.undo();
    }, new int[] {0});
    ranks("48 a seat fewer", x -> {
      x.addLine(1, 0, 1, 3);
      x.addLine(1, 0, 1, 2);
      x.addLine(1, 0, 1, 3);
    }, new int[] {1, 0, 2});
    ranks("48 one line", x -> x.addLine(1, 0, 1, 1), new int[] {0});
    ranks("48 all alike", x -> {
      for (int line = 0; line < 5; line++) {
        x.addLine(1, 0, 1, 7);
      }
    }, new int[] {0, 1, 2, 3, 4});
    ranks("48 used and refunded tickets do not count", x -> {
      fiveLines(x);
      x.sellTicket(0, 0, 0, 1);
      x.sellTicket(0, 0, 0, 6);
      x.refund(0);
      x.advance(24);
    }, new int[] {4, 0, 1, 2, 3});
    ranks("48 a ticket before fewer seats", x -> {
      fiveLines(x);
      x.sellTicket(0, 0, 0, 1);
    }, new int[] {0, 4, 1, 2, 3});
  }

  private static void ranks(String what, Twins.Build build, int[] order) {
    RingTransit x = Twins.made(build);
    for (int rank = 0; rank < order.length; rank++) {
      Check.same(what + ", rank " + rank, order[rank], x.lineByTickets(rank));
    }
    Check.fails(what + ", beyond", Twins.ELEMENT, () -> x.lineByTickets(order.length));
  }

  private static void promise49Ranks() {
    for (int rank : new int[] {-1, 6, Twins.LEAST, Twins.GREATEST}) {
      Twins.refused("49 rank " + rank + " of 6", Twins.ELEMENT, Twins::rich, x -> x.stopByLines(rank));
    }
    for (int rank : new int[] {-1, 10}) {
      Twins.refused("49 rank " + rank + " of 10", Twins.ELEMENT, x -> Twins.stops(x, 10), x -> x.stopByLines(rank));
    }
    // Rings 1, 1, 2, 1, 1, 0; walks 1, 0, 0, 1, 0, 0.
    stopRanks("49 rich", Twins::rich, new int[] {2, 0, 3, 1, 4, 5});
    stopRanks("49 a line that is undone", x -> {
      Twins.stops(x, 3);
      x.save();
      Twins.line(x, 1, 0, 1, 1, 2, 1);
      x.addWalk(1, 2, 1);
      x.restore();
    }, new int[] {0, 1, 2});
    stopRanks("49 one stop", x -> Twins.stops(x, 1), new int[] {0});
    stopRanks("49 all alike", x -> Twins.stops(x, 10), new int[] {0, 1, 2, 3, 4, 5, 6, 7, 8, 9});
    stopRanks("49 a ring before walks", x -> {
      Twins.stops(x, 10);
      x.addWalk(8, 7, 1);
      x.addWalk(8, 0, 30);
      Twins.line(x, 1, 0, 1, 1, 9);
      x.setSuspended(0, true);
      x.setClosed(9, true);
      x.setClosed(8, true);
    }, new int[] {9, 8, 0, 7, 1, 2, 3, 4, 5, 6});
    stopRanks("49 a ring more before nine walks", x -> {
      Twins.stops(x, 10);
      for (int stop = 0; stop < 9; stop++) {
        x.addWalk(9, stop, 1);
      }
      Twins.line(x, 1, 0, 1, 1, 9, 8);
      Twins.line(x, 1, 0, 1, 1, 8);
    }, new int[] {8, 9, 0, 1, 2, 3, 4, 5, 6, 7});
  }

  private static void stopRanks(String what, Twins.Build build, int[] order) {
    RingTransit x = Twins.made(build);
    for (int rank = 0; rank < order.length; rank++) {
      Check.same(what + ", rank " + rank, order[rank], x.stopByLines(rank));
    }
    Check.fails(what + ", beyond", Twins.ELEMENT, () -> x.stopByLines(order.length));
  }

  private static void promise50Mean() {
    Twins.refused("50 no tickets", Twins.ARITHMETIC, TicketBoundsTest::ring, RingTransit::meanPrice);
    Twins.refused("50 none left", Twins.ARITHMETIC, y -> {
      ring(y);
      y.refund(y.sellTicket(0, 0, 0, 1));
    }, RingTransit::meanPrice);
    Twins.answers("50 one", 18.0, TicketBoundsTest::ring, x -> {
      x.sellTicket(0, 0, 0, 6);
      return x.meanPrice();
    });
    Twins.answers("50 three", 14.0 / 3.0, Twins::rich, RingTransit::meanPrice);
    Twins.answers("50 sixteen", 156.0 / 16.0, x -> {
      ring(x);
      for (int ticket = 0; ticket < 16; ticket++) {
        x.sellTicket(0, ticket, 0, 1 + ticket % 6);
      }
    }, RingTransit::meanPrice);
  }

  private static void promise51Share() {
    Twins.refused("51 no stops", Twins.ARITHMETIC, Twins::empty, RingTransit::closedShare);
    Twins.refused("51 a line, no stops", Twins.ARITHMETIC, y -> y.addLine(1, 0, 1, 1), RingTransit::closedShare);
    Twins.answers("51 one, open", 0.0f, x -> Twins.stops(x, 1), RingTransit::closedShare);
    for (int closed = 0; closed <= 10; closed++) {
      int count = closed;
      Twins.answers("51 " + closed + " of 10", (float) closed / 10.0f, x -> {
        Twins.stops(x, 10);
        for (int stop = 0; stop < count; stop++) {
          x.setClosed(9 - stop, true);
        }
      }, RingTransit::closedShare);
    }
    Twins.answers("51 one of three", 1.0f / 3.0f, x -> {
      Twins.stops(x, 3);
      x.setClosed(0, true);
    }, RingTransit::closedShare);
  }

  private static void promises38To51OnlyLook() {
    Twins.onlyLooks("38", Twins::rich, RingTransit::ticketCount);
    Twins.onlyLooks("39", Twins::rich, x -> x.ticketAt(2));
    Twins.onlyLooks("44", Twins::rich, x -> x.ticketPrice(3));
    Twins.onlyLooks("45", Twins::rich, RingTransit::income);
    Twins.onlyLooks("48", Twins::rich, x -> x.lineByTickets(3));
    Twins.onlyLooks("49", Twins::rich, x -> x.stopByLines(5));
    Twins.onlyLooks("50", Twins::rich, RingTransit::meanPrice);
    Twins.onlyLooks("51", Twins::rich, RingTransit::closedShare);
  }

  public static void main(String[] args) {
    promise12And36And37Rides();
    promise12And36And37EmptyRing();
    promise12And36And37RingOfOne();
    promise12And36And37Lines();
    promise12Suspended();
    promise12ClosedStops();
    promise12SixteenTickets();
    promise12NoSeat();
    promise12SeatsOfALine();
    promise12Prices();
    promise12Ids();
    promise13And40To44And54UnknownTickets();
    promise13Refunds();
    promise14Minutes();
    promise14UsedInTheMinute();
    promise14LateSale();
    promise14PresentWeather();
    promise14All();
    promise36And37Rides();
    promise39Positions();
    promise45To47Accounts();
    promise48Ranks();
    promise49Ranks();
    promise50Mean();
    promise51Share();
    promises38To51OnlyLook();
    Check.end("TicketBoundsTest");
  }
}
