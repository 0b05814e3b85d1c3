/** Each boundary that promises 1 to 11 and 15 to 26 name, with a test of its own. */
public final class NetworkBoundsTest {
  private NetworkBoundsTest() {
  }

  private static void tenStops(RingTransit x) {
    Twins.rich(x);
    Twins.stops(x, 4);
  }

  private static void fiveLines(RingTransit x) {
    Twins.rich(x);
    x.addLine(1, 0, 1, 1);
  }

  /** Stops 0 to 6, and a walk between each two of the first six: 15. */
  private static void fifteenWalks(RingTransit x) {
    Twins.rich(x);
    x.addStop(0);
    for (int first = 0; first < 6; first++) {
      for (int second = first + 1; second < 6; second++) {
        if (first != 0 || second != 3) {
          x.addWalk(first, second, 7);
        }
      }
    }
  }

  /** Line 3 goes round stops 0 to 5 and has no ticket. */
  private static void sixInTheRing(RingTransit x) {
    Twins.rich(x);
    x.addStop(0);
    for (int stop = 0; stop < 6; stop++) {
      x.extendLine(3, stop);
    }
  }

  private static void promise1NewObjectIsEmpty() {
    RingTransit x = new RingTransit();
    Check.same("1 no stops", 0, x.stopCount());
    Check.same("1 no lines", 0, x.lineCount());
    Check.same("1 dry", false, x.isRaining());
    Check.same("1 minute 0", 0, x.minute());
    Check.same("1 no tickets", 0, x.ticketCount());
    Check.same("45 a new object has no income", 0, x.income());
    Check.same("46 a new object has refunded nothing", 0, x.refundedCoins());
    Check.same("47 a new object has no used tickets", 0, x.usedTickets());
    Check.same("52 a new object is consistent", true, x.isConsistent());
    Check.same("55 the output text is empty", "", Twins.output(x));
    Check.same("56 the buffer is empty", 1, x.type('a'));
  }

  private static void promise1NewObjectRefuses() {
    Twins.refused("23 no lines", Twins.INDEX, Twins::empty, x -> x.stopAt(0, 0));
    Twins.refused("24 no lines, no stops", Twins.INDEX, Twins::empty, x -> x.positionOf(0, 0));
    Twins.refused("48 no lines", Twins.ELEMENT, Twins::empty, x -> x.lineByTickets(0));
    Twins.refused("49 no stops", Twins.ELEMENT, Twins::empty, x -> x.stopByLines(0));
    Twins.refused("50 no tickets", Twins.ARITHMETIC, Twins::empty, RingTransit::meanPrice);
    Twins.refused("51 no stops", Twins.ARITHMETIC, Twins::empty, RingTransit::closedShare);
    Twins.refused("55 empty text", Twins.INDEX, Twins::empty, x -> x.outputAt(0));
    Twins.refused("58 no such script", Twins.ELEMENT, Twins::empty, RingTransit::errorPosition);
    Twins.refused("59 no such script", Twins.ELEMENT, Twins::empty, RingTransit::failedCommand);
    Twins.refused("60 nothing to undo", Twins.STATE, Twins::empty, RingTransit::undo);
    Twins.refused("62 no snapshot", Twins.STATE, Twins::empty, RingTransit::restore);
  }

  private static void promise1ObjectsAreApart() {
    RingTransit one = new RingTransit();
    RingTransit other = new RingTransit();
    Twins.rich(one);
    Check.same("1 another object stays new", Twins.state(new RingTransit()), Twins.state(other));
  }

  private static void promise2TransferMinutes() {
    for (int minutes : new int[] {-1, 10, Twins.LEAST, Twins.GREATEST}) {
      Twins.refused("2 " + minutes + " minutes", Twins.ARGUMENT, Twins::rich, x -> x.addStop(minutes));
    }
    for (int minutes = 0; minutes <= 9; minutes++) {
      int asked = minutes;
      Twins.answers("2 index, with " + minutes + " minutes", 6, Twins::rich, x -> x.addStop(asked));
      Twins.answers(
          "18 " + minutes + " minutes", asked, Twins::rich, x -> x.transferMinutes(x.addStop(asked)));
    }
  }

  private static void promise2StopIsOpen() {
    Twins.answers("2 open", false, Twins::rich, x -> x.isClosed(x.addStop(0)));
  }

  private static void promise2TenStops() {
    RingTransit x = new RingTransit();
    for (int stop = 0; stop < 10; stop++) {
      Check.same("2 stop " + stop, stop, x.addStop(stop));
      Check.same("17 after stop " + stop, stop + 1, x.stopCount());
    }
    for (int stop = 0; stop < 10; stop++) {
      Check.same("2 in their order, stop " + stop, stop, x.transferMinutes(stop));
    }
    Twins.answers("2 the tenth", 9, Twins::empty, y -> {
      Twins.stops(y, 9);
      return y.addStop(1);
    });
    Twins.refused("2 the eleventh", Twins.STATE, NetworkBoundsTest::tenStops, y -> y.addStop(0));
  }

  private static void promise2FirstListed() {
    for (int minutes : new int[] {-1, 10}) {
      Twins.refused(
          "2 ten stops and " + minutes + " minutes", Twins.ARGUMENT, NetworkBoundsTest::tenStops,
          x -> x.addStop(minutes));
    }
  }

  private static void promise3StopIndices() {
    Twins.refusedStops("3 first", Twins::rich, 6, (x, stop) -> x.addWalk(stop, 2, 5));
    Twins.refusedStops("3 second", Twins::rich, 6, (x, stop) -> x.addWalk(2, stop, 5));
    Twins.refusedStops("3 first", NetworkBoundsTest::tenStops, 10, (x, stop) -> x.addWalk(stop, 2, 5));
    Twins.refusedStops("3 second", NetworkBoundsTest::tenStops, 10, (x, stop) -> x.addWalk(2, stop, 5));
    Twins.refusedStops("3 first", Twins::empty, 0, (x, stop) -> x.addWalk(stop, 1, 5));
    Twins.answers("3 least and greatest stop", 2, Twins::rich, x -> x.addWalk(0, 5, 5));
    Twins.answers("3 greatest and least stop", 2, Twins::rich, x -> x.addWalk(5, 0, 5));
    Twins.answers(
        "3 least and greatest of ten", 2, NetworkBoundsTest::tenStops, x -> x.addWalk(9, 0, 5));
  }

  private static void promise3SameStop() {
    for (int stop = 0; stop < 6; stop++) {
      int same = stop;
      Twins.refused("3 same " + stop, Twins.ARGUMENT, Twins::rich, x -> x.addWalk(same, same, 5));
    }
  }

  private static void promise3Minutes() {
    for (int minutes : new int[] {0, 31, -1, Twins.LEAST, Twins.GREATEST}) {
      Twins.refused(
          "3 " + minutes + " minutes", Twins.ARGUMENT, Twins::rich, x -> x.addWalk(1, 2, minutes));
    }
    for (int minutes : new int[] {1, 2, 29, 30}) {
      Twins.answers("20 " + minutes + " minutes", minutes, Twins::rich, x -> {
        Check.same("3 the second walk", 2, x.addWalk(1, 2, minutes));
        return x.walkMinutes(1, 2);
      });
    }
  }

  private static void promise3OneWalkForTwoStops() {
    Twins.refused("3 a walk is there", Twins.STATE, Twins::rich, x -> x.addWalk(0, 3, 9));
    Twins.refused("3 a walk is there, back", Twins.STATE, Twins::rich, x -> x.addWalk(3, 0, 1));
    Twins.answers("3 a walk was there", 1, Twins::rich, x -> {
      x.removeWalk(0, 3);
      return x.addWalk(3, 0, 4);
    });
  }

  private static void promise3FifteenWalks() {
    Twins.refused("3 the sixteenth", Twins.STATE, NetworkBoundsTest::fifteenWalks, x -> x.addWalk(6, 0, 1));
    Twins.answers("3 the fifteenth", 15, NetworkBoundsTest::fifteenWalks, x -> {
      x.removeWalk(4, 5);
      return x.addWalk(6, 0, 1);
    });
    RingTransit y = Twins.made(x -> Twins.stops(x, 6));
    int walks = 0;
    for (int first = 0; first < 6; first++) {
      for (int second = first + 1; second < 6; second++) {
        walks++;
        Check.same("3 walk " + walks, walks, y.addWalk(second, first, walks * 2));
      }
    }
    Check.same("3 the first of 15 stays", 2, y.walkMinutes(0, 1));
    Check.same("3 the fifteenth of 15", 30, y.walkMinutes(4, 5));
  }

  private static void promise3FirstListed() {
    Twins.refused("3 no stop, same, 0 minutes", Twins.INDEX, Twins::rich, x -> x.addWalk(6, 6, 0));
    Twins.refused("3 no second stop, 31 minutes", Twins.INDEX, Twins::rich, x -> x.addWalk(0, -1, 31));
    Twins.refused("3 a walk, 0 minutes", Twins.ARGUMENT, Twins::rich, x -> x.addWalk(0, 3, 0));
    Twins.refused("3 a walk, 31 minutes", Twins.ARGUMENT, Twins::rich, x -> x.addWalk(3, 0, 31));
    Twins.refused(
        "3 fifteen walks, same stop", Twins.ARGUMENT, NetworkBoundsTest::fifteenWalks,
        x -> x.addWalk(6, 6, 3));
    Twins.refused(
        "3 fifteen walks, 31 minutes", Twins.ARGUMENT, NetworkBoundsTest::fifteenWalks,
        x -> x.addWalk(6, 0, 31));
    Twins.refused(
        "3 fifteen walks, no stop", Twins.INDEX, NetworkBoundsTest::fifteenWalks,
        x -> x.addWalk(0, 7, 3));
  }

  private static void promise4StopIndices() {
    Twins.refusedStops("4 first", Twins::rich, 6, (x, stop) -> x.removeWalk(stop, 3));
    Twins.refusedStops("4 second", Twins::rich, 6, (x, stop) -> x.removeWalk(0, stop));
    Twins.refusedStops("4 both", Twins::rich, 6, (x, stop) -> x.removeWalk(stop, stop));
    Twins.refusedStops("4 first", NetworkBoundsTest::tenStops, 10, (x, stop) -> x.removeWalk(stop, 3));
    Twins.refusedStops("4 second", NetworkBoundsTest::tenStops, 10, (x, stop) -> x.removeWalk(0, stop));
    Twins.refusedStops("4 first", Twins::empty, 0, (x, stop) -> x.removeWalk(stop, stop));
  }

  private static void promise4NoWalk() {
    Twins.refused("4 no walk", Twins.ELEMENT, Twins::rich, x -> x.removeWalk(0, 1));
    Twins.refused("4 no walk back", Twins.ELEMENT, Twins::rich, x -> x.removeWalk(5, 0));
    Twins.refused("4 a removed walk", Twins.ELEMENT, Twins::rich, x -> x.removeWalk(3, 4));
    Twins.refused("4 same stop", Twins.ELEMENT, Twins::rich, x -> x.removeWalk(0, 0));
    Twins.refused("4 removed twice", Twins.ELEMENT, y -> {
      Twins.rich(y);
      y.removeWalk(3, 0);
    }, x -> x.removeWalk(0, 3));
  }

  private static void promise4Removes() {
    Twins.answers("4 minutes", 9, Twins::rich, z -> z.removeWalk(0, 3));
    Twins.answers("4 minutes, back", 9, Twins::rich, z -> z.removeWalk(3, 0));
    RingTransit x = Twins.made(Twins::rich);
    x.removeWalk(3, 0);
    Check.fails("4 gone", Twins.ELEMENT, () -> x.walkMinutes(0, 3));
    Check.fails("4 gone back", Twins.ELEMENT, () -> x.walkMinutes(3, 0));
    RingTransit y = Twins.made(NetworkBoundsTest::fifteenWalks);
    for (int first = 5; first >= 0; first--) {
      for (int second = 0; second < first; second++) {
        Check.same("4 one of 15", first == 3 && second == 0 ? 9 : 7, y.removeWalk(first, second));
      }
    }
    Check.same("4 all are gone", 1, y.addWalk(0, 1, 3));
  }

  private static void promise5Ranges() {
    int[][] wrong = {
      {0, 0, 1, 1}, {61, 0, 1, 1}, {-1, 0, 1, 1}, {Twins.LEAST, 0, 1, 1}, {Twins.GREATEST, 0, 1, 1},
      {1, -1, 1, 1}, {1, 60, 1, 1}, {1, Twins.LEAST, 1, 1}, {1, Twins.GREATEST, 1, 1},
      {1, 0, 0, 1}, {1, 0, 10, 1}, {1, 0, Twins.LEAST, 1}, {1, 0, Twins.GREATEST, 1},
      {1, 0, 1, 0}, {1, 0, 1, 21}, {1, 0, 1, Twins.LEAST}, {1, 0, 1, Twins.GREATEST},
    };
    for (int[] v : wrong) {
      String what = "5 " + v[0] + "/" + v[1] + " " + v[2] + "x" + v[3];
      Twins.refused(what, Twins.ARGUMENT, Twins::rich, x -> x.addLine(v[0], v[1], v[2], v[3]));
      Twins.refused(
          what + ", five lines", Twins.ARGUMENT, NetworkBoundsTest::fiveLines,
          x -> x.addLine(v[0], v[1], v[2], v[3]));
    }
    int[][] right = {
      {1, 5, 5, 5}, {60, 5, 5, 5}, {5, 0, 5, 5}, {5, 59, 5, 5}, {5, 5, 1, 5}, {5, 5, 9, 5},
      {5, 5, 5, 1}, {5, 5, 5, 20}, {1, 0, 1, 1}, {60, 59, 9, 20},
    };
    for (int[] v : right) {
      String text = v[0] + "/" + v[1] + "+" + v[2] + "x" + v[3] + ":";
      Twins.answers("5 " + text, text, Twins::rich, x -> {
        Check.same("5 index", 4, x.addLine(v[0], v[1], v[2], v[3]));
        x.renderLine(4);
        return Twins.output(x);
      });
    }
  }

  private static void promise5NewLine() {
    Twins.answers("5 the ring is empty", 0, Twins::rich, x -> x.ringSize(x.addLine(1, 0, 1, 1)));
    Twins.answers("5 no rain delay", 0, Twins::rich, x -> x.setRainDelay(x.addLine(1, 0, 1, 1), 3));
    Twins.answers("5 not suspended", false, Twins::rich, x -> x.setSuspended(x.addLine(1, 0, 1, 1), true));
  }

  private static void promise5FiveLines() {
    RingTransit x = new RingTransit();
    for (int line = 0; line < 5; line++) {
      Check.same("5 line " + line, line, x.addLine(line + 1, 0, 1, 1));
      Check.same("21 after line " + line, line + 1, x.lineCount());
    }
    for (int line = 0; line < 5; line++) {
      x.renderLine(line);
      Check.same("5 in their order, line " + line, (char) ('1' + line), x.outputAt(0));
    }
    Twins.refused(
        "5 the sixth", Twins.STATE, NetworkBoundsTest::fiveLines, y -> y.addLine(1, 0, 1, 1));
  }

  private static void promise6Indices() {
    Twins.refusedLines("6", Twins::rich, 4, (x, line) -> x.extendLine(line, 5));
    Twins.refusedLines("6", NetworkBoundsTest::fiveLines, 5, (x, line) -> x.extendLine(line, 5));
    Twins.refusedLines("6", Twins::empty, 0, (x, line) -> x.extendLine(line, 0));
    Twins.refusedStops("6", Twins::rich, 6, (x, stop) -> x.extendLine(3, stop));
    Twins.refusedStops("6", NetworkBoundsTest::tenStops, 10, (x, stop) -> x.extendLine(3, stop));
    Twins.answers("6 the least stop", 1, Twins::rich, x -> x.extendLine(3, 0));
    Twins.answers("6 the greatest stop", 1, Twins::rich, x -> x.extendLine(3, 5));
    Twins.answers("6 the greatest of ten", 1, NetworkBoundsTest::tenStops, x -> x.extendLine(3, 9));
    Twins.answers("6 the greatest line", 1, NetworkBoundsTest::fiveLines, x -> x.extendLine(4, 1));
  }

  private static void promise6SixStops() {
    RingTransit x = Twins.made(y -> Twins.stops(y, 10));
    x.addLine(10, 0, 1, 1);
    for (int size = 1; size <= 6; size++) {
      Check.same("6 stop " + size + " of the ring", size, x.extendLine(0, 10 - size));
      Check.same("22 size " + size, size, x.ringSize(0));
      Check.same("23 at the end of the ring", 10 - size, x.stopAt(0, size - 1));
    }
    Twins.refused(
        "6 the seventh", Twins.STATE, NetworkBoundsTest::sixInTheRing, y -> y.extendLine(3, 6));
    Twins.answers("6 again the sixth", 6, NetworkBoundsTest::sixInTheRing, y -> {
      y.shortenLine(3);
      return y.extendLine(3, 6);
    });
  }

  private static void promise6Ticket() {
    Twins.refused("6 a ticket for the line", Twins.STATE, Twins::rich, x -> x.extendLine(1, 5));
    Twins.answers("6 tickets for other lines", 2, Twins::rich, x -> x.extendLine(2, 5));
    Twins.answers("6 the ticket was refunded", 3, Twins::rich, x -> {
      x.refund(2);
      return x.extendLine(1, 5);
    });
    Twins.answers("6 the ticket was used", 3, Twins::rich, x -> {
      x.advance(120);
      x.advance(120);
      return x.extendLine(1, 5);
    });
  }

  private static void promise6StopIsInTheRing() {
    Twins.refused("6 the only stop", Twins.UNSUPPORTED, Twins::rich, x -> x.extendLine(2, 4));
    Twins.refused("6 the first stop", Twins.UNSUPPORTED, y -> {
      Twins.rich(y);
      y.extendLine(2, 1);
    }, x -> x.extendLine(2, 4));
    Twins.refused("6 the last stop", Twins.UNSUPPORTED, y -> {
      Twins.rich(y);
      y.extendLine(2, 1);
    }, x -> x.extendLine(2, 1));
    Twins.answers("6 a stop that was taken off", 1, Twins::rich, x -> {
      x.shortenLine(2);
      return x.extendLine(2, 4);
    });
  }

  private static void promise6FirstListed() {
    Twins.refused("6 no line and no stop", Twins.INDEX, Twins::rich, x -> x.extendLine(4, 6));
    Twins.refused("6 no stop, a ticket", Twins.INDEX, Twins::rich, x -> x.extendLine(1, 6));
    Twins.refused(
        "6 no stop, six in the ring", Twins.INDEX, NetworkBoundsTest::sixInTheRing,
        x -> x.extendLine(3, 7));
    Twins.refused("6 a ticket, stop is in", Twins.STATE, Twins::rich, x -> x.extendLine(1, 2));
    Twins.refused(
        "6 six in the ring, stop is in", Twins.STATE, NetworkBoundsTest::sixInTheRing,
        x -> x.extendLine(3, 0));
  }

  private static void promise7Refusals() {
    Twins.refusedLines("7", Twins::rich, 4, (x, line) -> x.shortenLine(line));
    Twins.refusedLines("7", NetworkBoundsTest::fiveLines, 5, (x, line) -> x.shortenLine(line));
    Twins.refusedLines("7", Twins::empty, 0, (x, line) -> x.shortenLine(line));
    Twins.refused("7 an empty ring", Twins.ELEMENT, Twins::rich, x -> x.shortenLine(3));
    Twins.refused("7 a ring emptied", Twins.ELEMENT, y -> {
      Twins.rich(y);
      y.shortenLine(2);
    }, x -> x.shortenLine(2));
    Twins.refused("7 a ticket for the line", Twins.STATE, Twins::rich, x -> x.shortenLine(1));
  }

  private static void promise7Shortens() {
    RingTransit x = Twins.made(NetworkBoundsTest::sixInTheRing);
    for (int stop = 5; stop >= 0; stop--) {
      Check.same("7 the last stop", stop, x.shortenLine(3));
      Check.same("22 after it", stop, x.ringSize(3));
    }
    Twins.answers("7 the ticket was refunded", 3, Twins::rich, y -> {
      y.refund(2);
      return y.shortenLine(1);
    });
    Twins.answers("7 the ticket was used", 3, Twins::rich, y -> {
      y.advance(120);
      y.advance(120);
      return y.shortenLine(1);
    });
    Twins.answers("7 tickets for other lines", 4, Twins::rich, y -> y.shortenLine(2));
  }

  private static void promise8Rain() {
    RingTransit x = new RingTransit();
    Check.same("8 dry at first", false, x.setRain(false));
    Check.same("8 dry before", false, x.setRain(true));
    Check.same("16 rain", true, x.isRaining());
    Check.same("8 rain before, rain again", true, x.setRain(true));
    Check.same("8 rain before, now dry", true, x.setRain(false));
    Check.same("16 dry", false, x.isRaining());
  }

  private static void promise9Minutes() {
    for (int minutes : new int[] {-1, 6, Twins.LEAST, Twins.GREATEST}) {
      Twins.refused(
          "9 " + minutes + " minutes", Twins.ARGUMENT, Twins::rich, x -> x.setRainDelay(0, minutes));
      Twins.refused(
          "9 no line, " + minutes + " minutes", Twins.INDEX, Twins::rich,
          x -> x.setRainDelay(4, minutes));
    }
    for (int minutes = 0; minutes <= 5; minutes++) {
      int asked = minutes;
      Twins.answers("25 delay " + minutes, 2 + minutes, Twins::rich, x -> {
        Check.same("9 previous delay", 4, x.setRainDelay(0, asked));
        return x.hopMinutes(0);
      });
    }
  }

  private static void promise9Lines() {
    Twins.refusedLines("9", Twins::rich, 4, (x, line) -> x.setRainDelay(line, 1));
    Twins.refusedLines("9", NetworkBoundsTest::fiveLines, 5, (x, line) -> x.setRainDelay(line, 1));
    Twins.refusedLines("9", Twins::empty, 0, (x, line) -> x.setRainDelay(line, 1));
    Twins.answers("9 the greatest line", 0, NetworkBoundsTest::fiveLines, x -> x.setRainDelay(4, 1));
    Twins.answers("9 initially 0", 0, Twins::rich, x -> x.setRainDelay(3, 5));
  }

  private static void promise10And19Stops() {
    Twins.refusedStops("10", Twins::rich, 6, (x, stop) -> x.setClosed(stop, true));
    Twins.refusedStops("10", NetworkBoundsTest::tenStops, 10, (x, stop) -> x.setClosed(stop, false));
    Twins.refusedStops("10", Twins::empty, 0, (x, stop) -> x.setClosed(stop, true));
    Twins.refusedStops("19", Twins::rich, 6, (x, stop) -> x.isClosed(stop));
    Twins.refusedStops("19", NetworkBoundsTest::tenStops, 10, (x, stop) -> x.isClosed(stop));
    Twins.refusedStops("19", Twins::empty, 0, (x, stop) -> x.isClosed(stop));
    Twins.refusedStops("18", Twins::rich, 6, (x, stop) -> x.transferMinutes(stop));
    Twins.refusedStops("18", NetworkBoundsTest::tenStops, 10, (x, stop) -> x.transferMinutes(stop));
    Twins.refusedStops("18", Twins::empty, 0, (x, stop) -> x.transferMinutes(stop));
    for (int stop : new int[] {0, 9}) {
      RingTransit x = Twins.made(NetworkBoundsTest::tenStops);
      Check.same("10 was open, stop " + stop, false, x.setClosed(stop, true));
      Check.same("10 was closed, closed again", true, x.setClosed(stop, true));
      Check.same("19 closed", true, x.isClosed(stop));
      Check.same("10 was closed, now open", true, x.setClosed(stop, false));
      Check.same("10 was open, open again", false, x.setClosed(stop, false));
      Check.same("19 open", false, x.isClosed(stop));
      Check.same("19 another stays closed", true, x.isClosed(1));
    }
  }

  private static void promise11Lines() {
    Twins.refusedLines("11", Twins::rich, 4, (x, line) -> x.setSuspended(line, true));
    Twins.refusedLines("11", NetworkBoundsTest::fiveLines, 5, (x, line) -> x.setSuspended(line, false));
    Twins.refusedLines("11", Twins::empty, 0, (x, line) -> x.setSuspended(line, true));
    RingTransit x = Twins.made(NetworkBoundsTest::fiveLines);
    Check.same("11 was running", false, x.setSuspended(0, true));
    Check.same("11 was suspended, again", true, x.setSuspended(0, true));
    Check.same("26 suspended", false, x.runs(0));
    Check.same("11 tickets remain", 3, x.ticketCount());
    Check.same("11 the ticket remains", 0, x.ticketLine(0));
    Check.same("11 was suspended, now runs", true, x.setSuspended(0, false));
    Check.same("11 was running, runs on", false, x.setSuspended(0, false));
    Check.same("26 runs", true, x.runs(0));
    Check.same("11 the greatest line", false, x.setSuspended(4, true));
    Check.same("26 another runs on", true, x.runs(1));
  }

  private static void promise15Minute() {
    RingTransit x = new RingTransit();
    int minute = 0;
    for (int minutes : new int[] {1, 120, 59, 120}) {
      x.advance(minutes);
      minute += minutes;
      Check.same("15 after " + minutes, minute, x.minute());
    }
  }

  private static void promise20Indices() {
    Twins.refusedStops("20 first", Twins::rich, 6, (x, stop) -> x.walkMinutes(stop, 3));
    Twins.refusedStops("20 second", Twins::rich, 6, (x, stop) -> x.walkMinutes(0, stop));
    Twins.refusedStops("20 both", NetworkBoundsTest::tenStops, 10, (x, stop) -> x.walkMinutes(stop, stop));
    Twins.refusedStops("20 first", Twins::empty, 0, (x, stop) -> x.walkMinutes(stop, 0));
    Twins.refused("20 no walk", Twins.ELEMENT, Twins::rich, x -> x.walkMinutes(4, 3));
    Twins.refused("20 same stop", Twins.ELEMENT, Twins::rich, x -> x.walkMinutes(3, 3));
    Twins.answers("20", 9, Twins::rich, x -> x.walkMinutes(0, 3));
    Twins.answers("20 back", 9, Twins::rich, x -> x.walkMinutes(3, 0));
    Twins.answers("20 least and greatest", 30, NetworkBoundsTest::tenStops, x -> {
      x.addWalk(0, 9, 30);
      return x.walkMinutes(9, 0);
    });
  }

  private static void promise22And25And26Lines() {
    Twins.refusedLines("22", Twins::rich, 4, (x, line) -> x.ringSize(line));
    Twins.refusedLines("22", NetworkBoundsTest::fiveLines, 5, (x, line) -> x.ringSize(line));
    Twins.refusedLines("22", Twins::empty, 0, (x, line) -> x.ringSize(line));
    Twins.refusedLines("25", Twins::rich, 4, (x, line) -> x.hopMinutes(line));
    Twins.refusedLines("25", NetworkBoundsTest::fiveLines, 5, (x, line) -> x.hopMinutes(line));
    Twins.refusedLines("25", Twins::empty, 0, (x, line) -> x.hopMinutes(line));
    Twins.refusedLines("26", Twins::rich, 4, (x, line) -> x.runs(line));
    Twins.refusedLines("26", NetworkBoundsTest::fiveLines, 5, (x, line) -> x.runs(line));
    Twins.refusedLines("26", Twins::empty, 0, (x, line) -> x.runs(line));
    Twins.answers("22 empty ring", 0, Twins::rich, x -> x.ringSize(3));
    Twins.answers("22 full ring", 6, NetworkBoundsTest::sixInTheRing, x -> x.ringSize(3));
  }

  private static void promise23Positions() {
    for (int size = 1; size <= 6; size++) {
      int stops = size;
      Twins.Build build = x -> {
        NetworkBoundsTest.sixInTheRing(x);
        for (int last = 6; last > stops; last--) {
          x.shortenLine(3);
        }
      };
      Twins.answers("23 first of " + size, 0, build, x -> x.stopAt(3, 0));
      Twins.answers("23 last of " + size, size - 1, build, x -> x.stopAt(3, stops - 1));
      Twins.answers("23 position 0 again, of " + size, 0, build, x -> x.stopAt(3, stops));
      for (int position : new int[] {-1, size + 1, Twins.LEAST, Twins.GREATEST}) {
        Twins.refused(
            "23 position " + position + " of " + size, Twins.ELEMENT, build,
            x -> x.stopAt(3, position));
      }
    }
  }

  private static void promise23EmptyRing() {
    for (int position : new int[] {-1, 0, 1}) {
      Twins.refused(
          "23 empty ring, position " + position, Twins.ELEMENT, Twins::rich,
          x -> x.stopAt(3, position));
    }
  }

  private static void promise23Lines() {
    Twins.refusedLines("23", Twins::rich, 4, (x, line) -> x.stopAt(line, 0));
    Twins.refusedLines("23", NetworkBoundsTest::fiveLines, 5, (x, line) -> x.stopAt(line, 0));
    Twins.refusedLines("23 no position", Twins::rich, 4, (x, line) -> x.stopAt(line, -1));
  }

  private static void promise24Positions() {
    for (int stop = 0; stop < 6; stop++) {
      int asked = stop;
      Twins.answers("24 stop " + stop, stop, NetworkBoundsTest::sixInTheRing, x -> x.positionOf(3, asked));
    }
    Twins.refused(
        "24 not in a full ring", Twins.ELEMENT, NetworkBoundsTest::sixInTheRing,
        x -> x.positionOf(3, 6));
    Twins.refused("24 an empty ring", Twins.ELEMENT, Twins::rich, x -> x.positionOf(3, 0));
    Twins.refused("24 a stop taken off", Twins.ELEMENT, y -> {
      NetworkBoundsTest.sixInTheRing(y);
      y.shortenLine(3);
    }, x -> x.positionOf(3, 5));
    Twins.answers("24 a ring of one", 0, Twins::rich, x -> x.positionOf(2, 4));
  }

  private static void promise24Indices() {
    Twins.refusedLines("24", Twins::rich, 4, (x, line) -> x.positionOf(line, 0));
    Twins.refusedLines("24", NetworkBoundsTest::fiveLines, 5, (x, line) -> x.positionOf(line, 0));
    Twins.refusedStops("24", Twins::rich, 6, (x, stop) -> x.positionOf(0, stop));
    Twins.refusedStops("24", NetworkBoundsTest::tenStops, 10, (x, stop) -> x.positionOf(0, stop));
    Twins.refused("24 no line and no stop", Twins.INDEX, Twins::rich, x -> x.positionOf(4, 6));
  }

  private static void promise25Weather() {
    for (int hop : new int[] {1, 9}) {
      for (int delay : new int[] {0, 5}) {
        RingTransit x = new RingTransit();
        x.addLine(1, 0, hop, 1);
        x.setRainDelay(0, delay);
        Check.same("25 dry, " + hop + " and " + delay, hop, x.hopMinutes(0));
        x.setRain(true);
        Check.same("25 rain, " + hop + " and " + delay, hop + delay, x.hopMinutes(0));
        x.setRain(false);
        Check.same("25 dry again, " + hop + " and " + delay, hop, x.hopMinutes(0));
      }
    }
  }

  private static void promise26Runs() {
    RingTransit x = Twins.made(y -> Twins.stops(y, 3));
    x.addLine(1, 0, 1, 1);
    Check.same("26 no stops", false, x.runs(0));
    x.extendLine(0, 2);
    Check.same("26 one stop", false, x.runs(0));
    x.extendLine(0, 0);
    Check.same("26 two stops", true, x.runs(0));
    x.setClosed(0, true);
    x.setClosed(2, true);
    Check.same("26 closed stops", true, x.runs(0));
    x.setSuspended(0, true);
    Check.same("26 two stops, suspended", false, x.runs(0));
    x.setSuspended(0, false);
    x.shortenLine(0);
    Check.same("26 one stop again", false, x.runs(0));
  }

  public static void main(String[] args) {
    promise1NewObjectIsEmpty();
    promise1NewObjectRefuses();
    promise1ObjectsAreApart();
    promise2TransferMinutes();
    promise2StopIsOpen();
    promise2TenStops();
    promise2FirstListed();
    promise3StopIndices();
    promise3SameStop();
    promise3Minutes();
    promise3OneWalkForTwoStops();
    promise3FifteenWalks();
    promise3FirstListed();
    promise4StopIndices();
    promise4NoWalk();
    promise4Removes();
    promise5Ranges();
    promise5NewLine();
    promise5FiveLines();
    promise6Indices();
    promise6SixStops();
    promise6Ticket();
    promise6StopIsInTheRing();
    promise6FirstListed();
    promise7Refusals();
    promise7Shortens();
    promise8Rain();
    promise9Minutes();
    promise9Lines();
    promise10And19Stops();
    promise11Lines();
    promise15Minute();
    promise20Indices();
    promise22And25And26Lines();
    promise23Positions();
    promise23EmptyRing();
    promise23Lines();
    promise24Positions();
    promise24Indices();
    promise25Weather();
    promise26Runs();
    Check.end("NetworkBoundsTest");
  }
}
