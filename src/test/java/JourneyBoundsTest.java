/** Each boundary that promises 27 to 35 and 52 name, with a test of its own. */
public final class JourneyBoundsTest {
  private JourneyBoundsTest() {
  }

  /** Line 0 every 10 minutes from minute 3, 2 minutes a hop, round stops 0 to 5 of ten; line 1 empty. */
  private static void ring(RingTransit x) {
    Twins.stops(x, 10);
    Twins.line(x, 10, 3, 2, 4, 0, 1, 2, 3, 4, 5);
    Twins.line(x, 10, 3, 2, 4);
    Twins.line(x, 10, 3, 2, 4, 9);
  }

  private static void suspendedRing(RingTransit x) {
    ring(x);
    x.setSuspended(0, true);
  }

  private static void fiveLines(RingTransit x) {
    ring(x);
    Twins.line(x, 1, 0, 1, 1, 8, 9);
    Twins.line(x, 60, 59, 9, 20, 9, 8, 7, 6, 5, 4);
  }

  private static void fiveLinesInRain(RingTransit x) {
    fiveLines(x);
    x.setRainDelay(4, 5);
    x.setRain(true);
  }

  private static void arrives(String what, int want, Twins.Build build, int from, int to, int minute) {
    Twins.answers("30 " + what, want, build, x -> x.earliestArrival(from, to, minute));
    Twins.answers("31 " + what, want, build, x -> x.earliestArrivalByRounds(from, to, minute));
    Twins.answers("52 " + what, true, build, RingTransit::isConsistent);
  }

  private static void boards(String what, int want, Twins.Build build, int from, int to) {
    Twins.answers("32 " + what, want, build, x -> x.fewestBoardings(from, to));
    Twins.answers("33 " + what, want, build, x -> x.fewestBoardingsByTable(from, to));
  }

  private static void flows(String what, int want, Twins.Build build, int from, int to) {
    Twins.answers("34 " + what, want, build, x -> x.flow(from, to));
    Twins.answers("35 " + what, want, build, x -> x.smallestCut(from, to));
  }

  private static void noJourney(String what, Twins.Build build, int from, int to) {
    Twins.refused("30 " + what, Twins.ELEMENT, build, x -> x.earliestArrival(from, to, 0));
    Twins.refused("31 " + what, Twins.ELEMENT, build, x -> x.earliestArrivalByRounds(from, to, 0));
    Twins.refused("32 " + what, Twins.ELEMENT, build, x -> x.fewestBoardings(from, to));
    Twins.refused("33 " + what, Twins.ELEMENT, build, x -> x.fewestBoardingsByTable(from, to));
  }

  /** Nothing of an earlier question is left when the next one comes. */
  private static void promises28To35AskedAgain() {
    RingTransit x = Twins.made(y -> {
      ring(y);
      y.addWalk(5, 6, 30);
      y.addWalk(6, 9, 1);
    });
    for (int time = 0; time < 3; time++) {
      Check.same("28 again", 1000, x.nextTrip(0, 0, 9999));
      Check.same("29 again", 1000, x.nextTripBySearch(0, 0, 9999));
      Check.same("30 again", 13 + 31, x.earliestArrival(0, 9, 0));
      Check.same("31 again", 13 + 31, x.earliestArrivalByRounds(0, 9, 0));
      Check.same("30 from the other end", 31 + 2 + 2, x.earliestArrival(9, 0, 0));
      Check.same("31 from the other end", 31 + 2 + 2, x.earliestArrivalByRounds(9, 0, 0));
      Check.fails("30 no journey", Twins.ELEMENT, () -> x.earliestArrival(0, 8, 0));
      Check.fails("31 no journey", Twins.ELEMENT, () -> x.earliestArrivalByRounds(0, 8, 0));
      Check.same("32 again", 1, x.fewestBoardings(0, 9));
      Check.same("33 again", 1, x.fewestBoardingsByTable(0, 9));
      Check.fails("32 no journey", Twins.ELEMENT, () -> x.fewestBoardings(8, 0));
      Check.fails("33 no journey", Twins.ELEMENT, () -> x.fewestBoardingsByTable(8, 0));
      Check.same("34 again", 4, x.flow(0, 5));
      Check.same("35 again", 4, x.smallestCut(0, 5));
      Check.same("34 none", 0, x.flow(0, 9));
      Check.same("35 none", 0, x.smallestCut(0, 9));
      Check.same("52 again", true, x.isConsistent());
    }
  }

  /** A traveller already sent must give way to another one. */
  private static void promises34And35GiveWay() {
    flows("two ways that the shortest way would block", 2, x -> {
      Twins.stops(x, 6);
      Twins.line(x, 10, 0, 2, 1, 0, 1, 2, 3);
      Twins.line(x, 10, 0, 2, 1, 0, 4, 2);
      Twins.line(x, 10, 0, 2, 1, 1, 5, 3);
    }, 0, 3);
  }

  private static void promise27Trips() {
    for (int trip : new int[] {-1, 100, Twins.LEAST, Twins.GREATEST}) {
      Twins.refused(
          "27 trip " + trip, Twins.ARGUMENT, JourneyBoundsTest::ring, x -> x.tripMinute(0, trip, 0));
    }
    Twins.answers("27 trip 0", 3, JourneyBoundsTest::ring, x -> x.tripMinute(0, 0, 0));
    Twins.answers("27 trip 99", 993, JourneyBoundsTest::ring, x -> x.tripMinute(0, 99, 0));
  }

  private static void promise27Positions() {
    for (int position : new int[] {-1, 7, Twins.LEAST, Twins.GREATEST}) {
      Twins.refused(
          "27 position " + position, Twins.ARGUMENT, JourneyBoundsTest::ring,
          x -> x.tripMinute(0, 0, position));
    }
    for (int position = 0; position <= 6; position++) {
      int asked = position;
      Twins.answers(
          "27 position " + position, 13 + 2 * position, JourneyBoundsTest::ring,
          x -> x.tripMinute(0, 1, asked));
    }
  }

  private static void promise27FewerThanTwoStops() {
    Twins.refused("27 no stops", Twins.STATE, JourneyBoundsTest::ring, x -> x.tripMinute(1, 0, 0));
    Twins.refused("27 no stops, position 1", Twins.ARGUMENT, JourneyBoundsTest::ring, x -> x.tripMinute(1, 0, 1));
    Twins.refused("27 one stop", Twins.STATE, JourneyBoundsTest::ring, x -> x.tripMinute(2, 0, 0));
    Twins.refused("27 one stop, its end", Twins.STATE, JourneyBoundsTest::ring, x -> x.tripMinute(2, 0, 1));
    Twins.refused("27 one stop, position 2", Twins.ARGUMENT, JourneyBoundsTest::ring, x -> x.tripMinute(2, 0, 2));
    Twins.refused("27 one stop, trip 100", Twins.ARGUMENT, JourneyBoundsTest::ring, x -> x.tripMinute(2, 100, 0));
    Twins.refused("27 no stops, trip -1", Twins.ARGUMENT, JourneyBoundsTest::ring, x -> x.tripMinute(1, -1, 0));
    Twins.answers("27 two stops", 2, JourneyBoundsTest::fiveLines, x -> x.tripMinute(3, 0, 2));
  }

  private static void promise27Lines() {
    Twins.refusedLines("27", JourneyBoundsTest::ring, 3, (x, line) -> x.tripMinute(line, 0, 0));
    Twins.refusedLines("27", JourneyBoundsTest::fiveLines, 5, (x, line) -> x.tripMinute(line, 0, 0));
    Twins.refusedLines("27", Twins::empty, 0, (x, line) -> x.tripMinute(line, 0, 0));
    Twins.refusedLines("27 and no trip", JourneyBoundsTest::ring, 3, (x, line) -> x.tripMinute(line, 100, 9));
  }

  private static void promise27WeatherAndSuspension() {
    Twins.answers("27 suspended", 15, JourneyBoundsTest::suspendedRing, x -> x.tripMinute(0, 0, 6));
    Twins.answers(
        "27 the last of all", 59 + 99 * 60 + 6 * 9, JourneyBoundsTest::fiveLines,
        x -> x.tripMinute(4, 99, 6));
    Twins.answers(
        "27 the last of all, in rain", 59 + 99 * 60 + 6 * 14, JourneyBoundsTest::fiveLinesInRain,
        x -> x.tripMinute(4, 99, 6));
    Twins.answers(
        "27 rain does not delay the start", 59, JourneyBoundsTest::fiveLinesInRain,
        x -> x.tripMinute(4, 0, 0));
  }

  private static Object next(RingTransit x, int way, int line, int position, int minute) {
    return way == 28
        ? x.nextTrip(line, position, minute)
        : x.nextTripBySearch(line, position, minute);
  }

  private static void promises28And29Positions() {
    for (int way = 28; way <= 29; way++) {
      int asked = way;
      for (int position : new int[] {-1, 6, 7, Twins.LEAST, Twins.GREATEST}) {
        Twins.refused(
            way + " position " + position, Twins.ARGUMENT, JourneyBoundsTest::ring,
            x -> next(x, asked, 0, position, 0));
      }
      Twins.answers(way + " position 0", 1, JourneyBoundsTest::ring, x -> next(x, asked, 0, 0, 13));
      Twins.answers(way + " position 5", 1, JourneyBoundsTest::ring, x -> next(x, asked, 0, 5, 23));
      Twins.refused(way + " no stops", Twins.ARGUMENT, JourneyBoundsTest::ring, x -> next(x, asked, 1, 0, 0));
      Twins.refused(way + " end of one stop", Twins.ARGUMENT, JourneyBoundsTest::ring, x -> next(x, asked, 2, 1, 0));
    }
  }

  private static void promises28And29Minutes() {
    for (int way = 28; way <= 29; way++) {
      int asked = way;
      for (int minute : new int[] {-1, 10000, Twins.LEAST, Twins.GREATEST}) {
        Twins.refused(
            way + " minute " + minute, Twins.ARGUMENT, JourneyBoundsTest::ring,
            x -> next(x, asked, 0, 0, minute));
      }
      Twins.answers(way + " minute 0", 0, JourneyBoundsTest::ring, x -> next(x, asked, 0, 0, 0));
      Twins.answers(way + " minute 9999", 1000, JourneyBoundsTest::ring, x -> next(x, asked, 0, 0, 9999));
      Twins.answers(way + " as it comes", 0, JourneyBoundsTest::ring, x -> next(x, asked, 0, 0, 3));
      Twins.answers(way + " a minute late", 1, JourneyBoundsTest::ring, x -> next(x, asked, 0, 0, 4));
      Twins.answers(way + " as trip 99 comes", 99, JourneyBoundsTest::ring, x -> next(x, asked, 0, 0, 993));
      Twins.answers(way + " after trip 99", 100, JourneyBoundsTest::ring, x -> next(x, asked, 0, 0, 994));
      Twins.answers(way + " every minute", 9999, JourneyBoundsTest::fiveLines, x -> next(x, asked, 3, 0, 9999));
      Twins.answers(way + " every minute, on", 9998, JourneyBoundsTest::fiveLines, x -> next(x, asked, 3, 1, 9999));
      Twins.answers(
          way + " in rain as it comes", 1, JourneyBoundsTest::fiveLinesInRain,
          x -> next(x, asked, 4, 5, 59 + 60 + 70));
      Twins.answers(
          way + " in rain a minute late", 2, JourneyBoundsTest::fiveLinesInRain,
          x -> next(x, asked, 4, 5, 59 + 60 + 71));
    }
  }

  private static void promises28And29Agree() {
    for (int headway : new int[] {1, 2, 7, 59, 60}) {
      for (int offset : new int[] {0, 59}) {
        RingTransit x = Twins.made(y -> Twins.stops(y, 6));
        Twins.line(x, headway, offset, 9, 1, 0, 1, 2, 3, 4, 5);
        for (int minute : new int[] {0, 1, 58, 59, 60, 61, 103, 104, 105, 8191, 8192, 8193, 9998, 9999}) {
          for (int position : new int[] {0, 5}) {
            int trip = x.nextTrip(0, position, minute);
            Check.same("29 as 28", trip, x.nextTripBySearch(0, position, minute));
            int at = offset + trip * headway + position * 9;
            Check.same("28 not too early", true, at >= minute);
            Check.same("28 the first", true, trip == 0 || at - headway < minute);
          }
        }
      }
    }
  }

  private static void promises28And29LineDoesNotRun() {
    for (int way = 28; way <= 29; way++) {
      int asked = way;
      Twins.refused(way + " one stop", Twins.STATE, JourneyBoundsTest::ring, x -> next(x, asked, 2, 0, 0));
      Twins.refused(way + " suspended", Twins.STATE, JourneyBoundsTest::suspendedRing, x -> next(x, asked, 0, 0, 0));
      Twins.answers(way + " two stops", 0, JourneyBoundsTest::fiveLines, x -> next(x, asked, 3, 1, 0));
      Twins.refused(
          way + " suspended, no position", Twins.ARGUMENT, JourneyBoundsTest::suspendedRing,
          x -> next(x, asked, 0, 6, 0));
      Twins.refused(
          way + " suspended, minute 10000", Twins.ARGUMENT, JourneyBoundsTest::suspendedRing,
          x -> next(x, asked, 0, 0, 10000));
      Twins.refused(
          way + " suspended, minute -1", Twins.ARGUMENT, JourneyBoundsTest::suspendedRing,
          x -> next(x, asked, 0, 0, -1));
    }
  }

  private static void promises28And29Lines() {
    for (int way = 28; way <= 29; way++) {
      int asked = way;
      Twins.refusedLines(way + "", JourneyBoundsTest::ring, 3, (x, line) -> next(x, asked, line, 0, 0));
      Twins.refusedLines(way + "", JourneyBoundsTest::fiveLines, 5, (x, line) -> next(x, asked, line, 0, 0));
      Twins.refusedLines(way + "", Twins::empty, 0, (x, line) -> next(x, asked, line, 0, 0));
      Twins.refusedLines(
          way + " and no minute", JourneyBoundsTest::suspendedRing, 3,
          (x, line) -> next(x, asked, line, 9, 10000));
    }
  }

  private static void promises30To35Stops() {
    Twins.IntCall[] calls = {
      (x, stop) -> x.earliestArrival(stop, 0, 0), (x, stop) -> x.earliestArrival(0, stop, 0),
      (x, stop) -> x.earliestArrival(stop, stop, 10000),
      (x, stop) -> x.earliestArrivalByRounds(stop, 0, 0),
      (x, stop) -> x.earliestArrivalByRounds(0, stop, 0),
      (x, stop) -> x.earliestArrivalByRounds(stop, stop, -1),
      (x, stop) -> x.fewestBoardings(stop, 0), (x, stop) -> x.fewestBoardings(0, stop),
      (x, stop) -> x.fewestBoardings(stop, stop),
      (x, stop) -> x.fewestBoardingsByTable(stop, 0),
      (x, stop) -> x.fewestBoardingsByTable(0, stop),
      (x, stop) -> x.fewestBoardingsByTable(stop, stop),
      (x, stop) -> x.flow(stop, 0), (x, stop) -> x.flow(0, stop), (x, stop) -> x.flow(stop, stop),
      (x, stop) -> x.smallestCut(stop, 0), (x, stop) -> x.smallestCut(0, stop),
      (x, stop) -> x.smallestCut(stop, stop),
    };
    for (int call = 0; call < calls.length; call++) {
      String what = 30 + call / 3 + " argument " + (call % 3 + 1);
      Twins.refusedStops(what, Twins::rich, 6, calls[call]);
      Twins.refusedStops(what, JourneyBoundsTest::ring, 10, calls[call]);
      Twins.refusedStops(what, Twins::empty, 0, calls[call]);
    }
  }

  private static void promises30And31Minutes() {
    for (int minute : new int[] {-1, 10000, Twins.LEAST, Twins.GREATEST}) {
      Twins.refused(
          "30 minute " + minute, Twins.ARGUMENT, JourneyBoundsTest::ring,
          x -> x.earliestArrival(0, 1, minute));
      Twins.refused(
          "31 minute " + minute, Twins.ARGUMENT, JourneyBoundsTest::ring,
          x -> x.earliestArrivalByRounds(0, 1, minute));
      Twins.refused(
          "30 no journey, minute " + minute, Twins.ARGUMENT, JourneyBoundsTest::ring,
          x -> x.earliestArrival(0, 9, minute));
      Twins.refused(
          "31 no journey, minute " + minute, Twins.ARGUMENT, JourneyBoundsTest::ring,
          x -> x.earliestArrivalByRounds(0, 9, minute));
      Twins.refused(
          "30 same stop, minute " + minute, Twins.ARGUMENT, JourneyBoundsTest::ring,
          x -> x.earliestArrival(9, 9, minute));
      Twins.refused(
          "31 same stop, minute " + minute, Twins.ARGUMENT, JourneyBoundsTest::ring,
          x -> x.earliestArrivalByRounds(9, 9, minute));
    }
    arrives("minute 0", 5, JourneyBoundsTest::ring, 0, 1, 0);
    arrives("minute 9999", 10005, JourneyBoundsTest::ring, 0, 1, 9999);
    arrives("same stop, minute 0", 0, JourneyBoundsTest::ring, 9, 9, 0);
    arrives("same stop, minute 9999", 9999, JourneyBoundsTest::ring, 9, 9, 9999);
  }

  private static void promises30To33SameClosedStop() {
    Twins.Build build = x -> {
      Twins.stops(x, 1);
      x.setClosed(0, true);
    };
    arrives("the only stop, closed", 7, build, 0, 0, 7);
    boards("the only stop, closed", 0, build, 0, 0);
    boards("the only stop, open", 0, x -> Twins.stops(x, 1), 0, 0);
  }

  private static void promises30To33NoJourney() {
    noJourney("no lines, no walks", x -> Twins.stops(x, 2), 0, 1);
    noJourney("no way off the ring", JourneyBoundsTest::ring, 0, 9);
    noJourney("no way onto the ring", JourneyBoundsTest::ring, 9, 0);
    noJourney("suspended", JourneyBoundsTest::suspendedRing, 0, 1);
    noJourney("a ring of one stop", x -> {
      Twins.stops(x, 2);
      Twins.line(x, 1, 0, 1, 1, 0);
    }, 0, 1);
    noJourney("begins at a closed stop", x -> {
      ring(x);
      x.setClosed(2, true);
      x.addWalk(2, 3, 1);
    }, 2, 3);
    noJourney("ends at a closed stop", x -> {
      ring(x);
      x.setClosed(3, true);
      x.addWalk(2, 3, 1);
    }, 2, 3);
    noJourney("walks over a closed stop", x -> {
      Twins.stops(x, 3);
      x.addWalk(0, 1, 1);
      x.addWalk(1, 2, 1);
      x.setClosed(1, true);
    }, 0, 2);
    noJourney("changes at a closed stop", x -> {
      Twins.stops(x, 3);
      Twins.line(x, 1, 0, 1, 1, 0, 1);
      Twins.line(x, 1, 0, 1, 1, 1, 2);
      x.setClosed(1, true);
    }, 0, 2);
    noJourney("changes at the closed end of the ring", x -> {
      ring(x);
      x.setClosed(0, true);
    }, 5, 1);
  }

  private static void promises30To33EndOfTheRing() {
    arrives("the position s is stop 0", 15, JourneyBoundsTest::ring, 5, 0, 0);
    boards("the position s is stop 0", 1, JourneyBoundsTest::ring, 5, 0);
    arrives("all hops but the last", 13, JourneyBoundsTest::ring, 0, 5, 0);
    boards("all hops but the last", 1, JourneyBoundsTest::ring, 0, 5);
    arrives("no ride goes over the end", 25, JourneyBoundsTest::ring, 5, 1, 0);
    boards("no ride goes over the end", 2, JourneyBoundsTest::ring, 5, 1);
    arrives("a change at the end of the ring takes its minutes", 15 + 18 + 2, x -> {
      x.addStop(9);
      Twins.stops(x, 5);
      Twins.line(x, 10, 3, 2, 4, 0, 1, 2, 3, 4, 5);
    }, 5, 1, 0);
    arrives("two stops there", 1, JourneyBoundsTest::fiveLines, 8, 9, 0);
    arrives("two stops back", 2, JourneyBoundsTest::fiveLines, 9, 8, 0);
  }

  private static void promises30And31Transfers() {
    for (int minutes : new int[] {0, 9}) {
      Twins.Build build = x -> {
        x.addStop(9);
        x.addStop(minutes);
        x.addStop(9);
        Twins.line(x, 60, 10, 5, 1, 0, 1);
        Twins.line(x, 60, 15 + minutes, 4, 1, 1, 2);
      };
      arrives("just in time, transfer " + minutes, 15 + minutes + 4, build, 0, 2, 10);
      Twins.Build late = x -> {
        x.addStop(9);
        x.addStop(minutes);
        x.addStop(9);
        Twins.line(x, 60, 10, 5, 1, 0, 1);
        Twins.line(x, 60, 14 + minutes, 4, 1, 1, 2);
      };
      arrives("a minute short, transfer " + minutes, 74 + minutes + 4, late, 0, 2, 10);
    }
    arrives("ready at once where it begins", 15, x -> {
      x.addStop(9);
      x.addStop(9);
      Twins.line(x, 60, 10, 5, 1, 0, 1);
    }, 0, 1, 10);
  }

  private static void promises30And31Walks() {
    Twins.Build build = x -> {
      x.addStop(9);
      x.addStop(9);
      x.addStop(9);
      x.addWalk(0, 1, 30);
      x.addWalk(2, 1, 1);
      Twins.line(x, 60, 31, 3, 1, 2, 0);
    };
    arrives("the longest walk", 30, build, 0, 1, 0);
    arrives("two walks", 31, build, 0, 2, 0);
    arrives("walks lead both ways", 31, build, 2, 0, 0);
    arrives("ready in the minute in which a walk ends", 34, build, 1, 0, 30);
    arrives("ready a minute too late, so on foot", 61, build, 1, 0, 31);
    Twins.Build afterRide = x -> {
      x.addStop(0);
      x.addStop(9);
      x.addStop(0);
      x.addWalk(1, 2, 4);
      Twins.line(x, 60, 0, 3, 1, 0, 1);
    };
    arrives("a walk right after a ride", 7, afterRide, 0, 2, 0);
    boards("walks are no boardings", 0, build, 2, 0);
  }

  private static void promises30And31WalkSavesTheTransfer() {
    arrives("ready after a walk there and back", 6, x -> {
      x.addStop(0);
      x.addStop(9);
      x.addStop(0);
      x.addStop(0);
      Twins.line(x, 60, 0, 3, 1, 0, 1);
      Twins.line(x, 1, 0, 1, 1, 1, 3);
      x.addWalk(1, 2, 1);
    }, 0, 3, 0);
  }

  private static void promises30And31Rain() {
    Twins.Build build = x -> {
      ring(x);
      x.setRainDelay(0, 5);
      x.setRain(true);
    };
    arrives("rain on each hop", 3 + 5 * 7, build, 0, 5, 0);
    arrives("rain on the last hop too", 3 + 6 * 7, build, 5, 0, 38);
    arrives("rain before the ride", 3 + 14, build, 1, 2, 10);
    arrives("rain before the ride, a minute late", 3 + 10 + 14, build, 1, 2, 11);
  }

  private static void promises32And33Numbers() {
    Twins.Build chain = x -> {
      Twins.stops(x, 10);
      for (int line = 0; line < 5; line++) {
        Twins.line(x, 5, 0, 1, line + 1, 2 * line, 2 * line + 1);
      }
      for (int walk = 1; walk < 9; walk += 2) {
        x.addWalk(walk, walk + 1, 1);
      }
    };
    boards("none", 0, chain, 1, 2);
    boards("one", 1, chain, 0, 1);
    boards("one, and a walk", 1, chain, 0, 2);
    boards("all five lines", 5, chain, 0, 9);
    boards("all five lines back", 5, chain, 9, 0);
    Twins.Build round = x -> {
      Twins.stops(x, 10);
      Twins.line(x, 5, 0, 1, 1, 0, 1, 2, 3, 4, 5);
      Twins.line(x, 5, 0, 1, 1, 5, 6);
      Twins.line(x, 5, 0, 1, 1, 6, 7);
      Twins.line(x, 5, 0, 1, 1, 7, 8);
      Twins.line(x, 5, 0, 1, 1, 8, 9);
    };
    boards("and one more over the end of the ring", 6, round, 9, 1);
  }

  private static void promises34And35SameStop() {
    for (int stop : new int[] {0, 9}) {
      Twins.refused("34 same " + stop, Twins.ARGUMENT, JourneyBoundsTest::ring, x -> x.flow(stop, stop));
      Twins.refused("35 same " + stop, Twins.ARGUMENT, JourneyBoundsTest::ring, x -> x.smallestCut(stop, stop));
    }
    Twins.refused("34 the only stop", Twins.ARGUMENT, x -> Twins.stops(x, 1), x -> x.flow(0, 0));
    Twins.refused("35 the only stop", Twins.ARGUMENT, x -> Twins.stops(x, 1), x -> x.smallestCut(0, 0));
  }

  private static void promises34And35LeastAndGreatest() {
    flows("no lines", 0, x -> Twins.stops(x, 2), 0, 1);
    flows("off the ring", 0, JourneyBoundsTest::ring, 0, 9);
    flows("suspended", 0, JourneyBoundsTest::suspendedRing, 0, 1);
    flows("one line", 4, JourneyBoundsTest::ring, 0, 1);
    flows("round the end of the ring", 4, JourneyBoundsTest::ring, 5, 1);
    flows("ten stops, round the long ring and by the short one", 21, JourneyBoundsTest::fiveLines, 8, 9);
    flows("ten stops, both lines at once", 21, JourneyBoundsTest::fiveLines, 9, 8);
    Twins.Build all = x -> {
      Twins.stops(x, 10);
      for (int line = 0; line < 5; line++) {
        Twins.line(x, 10, 0, 2, 20, 4, 5, 6, 7, 8, 9);
      }
    };
    flows("all seats there are", 100, all, 4, 9);
    flows("all seats there are, on the last hop", 100, all, 9, 4);
    flows("one seat", 1, x -> {
      Twins.stops(x, 2);
      Twins.line(x, 10, 0, 2, 1, 1, 0);
    }, 0, 1);
  }

  private static void promises34And35ClosedStopsAndWalks() {
    Twins.Build closed = x -> {
      ring(x);
      for (int stop = 0; stop < 6; stop++) {
        x.setClosed(stop, true);
      }
    };
    flows("all stops closed", 4, closed, 0, 3);
    Twins.Build walk = x -> {
      Twins.stops(x, 2);
      x.addWalk(0, 1, 1);
    };
    flows("nobody walks", 0, walk, 0, 1);
  }

  private static void promise52Edges() {
    Twins.answers("52 one stop", true, x -> Twins.stops(x, 1), RingTransit::isConsistent);
    Twins.answers("52 all lines", true, JourneyBoundsTest::fiveLines, RingTransit::isConsistent);
    Twins.answers("52 all lines in rain", true, JourneyBoundsTest::fiveLinesInRain, RingTransit::isConsistent);
    Twins.answers("52 stop 0 is closed", true, x -> {
      ring(x);
      x.setClosed(0, true);
    }, RingTransit::isConsistent);
    Twins.answers("52 each seat is sold", true, x -> {
      ring(x);
      for (int ticket = 0; ticket < 4; ticket++) {
        x.sellTicket(0, 5, 0, 6);
      }
    }, RingTransit::isConsistent);
    RingTransit late = Twins.made(JourneyBoundsTest::fiveLines);
    for (int call = 0; call < 83; call++) {
      late.advance(120);
    }
    late.advance(39);
    Check.same("15 late", 9999, late.minute());
    Check.same("52 in minute 9999", true, late.isConsistent());
    late.advance(1);
    Check.same("52 in minute 10000", true, late.isConsistent());
  }

  private static void promises27To37And52OnlyLook() {
    Twins.onlyLooks("27", Twins::rich, x -> x.tripMinute(0, 5, 3));
    Twins.onlyLooks("28", Twins::rich, x -> x.nextTrip(0, 2, 9999));
    Twins.onlyLooks("29", Twins::rich, x -> x.nextTripBySearch(0, 2, 9999));
    Twins.onlyLooks("30", Twins::rich, x -> x.earliestArrival(0, 3, 9999));
    Twins.onlyLooks("31", Twins::rich, x -> x.earliestArrivalByRounds(0, 3, 9999));
    Twins.onlyLooks("32", Twins::rich, x -> x.fewestBoardings(0, 3));
    Twins.onlyLooks("33", Twins::rich, x -> x.fewestBoardingsByTable(0, 3));
    Twins.onlyLooks("34", Twins::rich, x -> x.flow(0, 3));
    Twins.onlyLooks("35", Twins::rich, x -> x.smallestCut(0, 3));
    Twins.onlyLooks("36", Twins::rich, x -> x.freeSeats(0, 20, 0, 3));
    Twins.onlyLooks("37", Twins::rich, x -> x.freeSeatsBySweep(0, 20, 0, 3));
    Twins.onlyLooks("52", Twins::rich, RingTransit::isConsistent);
  }

  public static void main(String[] args) {
    promise27Trips();
    promise27Positions();
    promise27FewerThanTwoStops();
    promise27Lines();
    promise27WeatherAndSuspension();
    promises28And29Positions();
    promises28And29Minutes();
    promises28And29Agree();
    promises28And29LineDoesNotRun();
    promises28And29Lines();
    promises30To35Stops();
    promises30And31Minutes();
    promises30To33SameClosedStop();
    promises30To33NoJourney();
    promises30To33EndOfTheRing();
    promises30And31Transfers();
    promises30And31Walks();
    promises30And31WalkSavesTheTransfer();
    promises30And31Rain();
    promises32And33Numbers();
    promises34And35SameStop();
    promises34And35LeastAndGreatest();
    promises34And35ClosedStopsAndWalks();
    promises34And35GiveWay();
    promises28To35AskedAgain();
    promise52Edges();
    promises27To37And52OnlyLook();
    Check.end("JourneyBoundsTest");
  }
}
