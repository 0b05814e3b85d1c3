/** Each boundary of changes, undo and the snapshot (promises 60 to 62), and of the 512 calls. */
public final class UndoBoundsTest {
  private UndoBoundsTest() {
  }

  /** As rich, but after restore, so that nothing can be undone. */
  private static void restored(RingTransit x) {
    Twins.rich(x);
    x.restore();
  }

  private static int left(RingTransit x) {
    int undone = 0;
    while (undone < 20 && !Check.answerOf(x::undo).toString().startsWith("throws")) {
      undone++;
    }
    return undone;
  }

  private static final Twins.Call[] CHANGES = {
    x -> x.addStop(0), x -> x.addWalk(0, 1, 5), x -> x.removeWalk(0, 3), x -> x.addLine(1, 0, 1, 1),
    x -> x.extendLine(3, 0), x -> x.shortenLine(2), x -> x.setRain(true), x -> x.setRain(false),
    x -> x.setRainDelay(0, 0), x -> x.setRainDelay(0, 4), x -> x.setClosed(0, true),
    x -> x.setClosed(0, false), x -> x.setSuspended(0, true), x -> x.setSuspended(0, false),
    x -> x.sellTicket(1, 0, 0, 2), x -> x.refund(0), x -> x.advance(1), x -> x.advance(120),
  };

  /** The same of a script; the buffer of rich must be empty before it. */
  private static final String[] SCRIPTS = {
    "stop 0", "walk 0-1 5", "line 1/0 1x1", "add 3 0", "cut 2", "rain", "dry", "close 0", "open 0",
    "halt 0", "go 0", "sell 1 0 0>2", "refund 0", "wait 1", "dry;dry", "stop 0;wait 9;refund 0;cut 2",
  };

  private static void promise60EachChangeCounts() {
    for (int change = 0; change < CHANGES.length; change++) {
      Twins.Call call = CHANGES[change];
      Twins.answers("60 change " + change + " counts", 1, x -> {
        restored(x);
        call.on(x);
      }, UndoBoundsTest::left);
      Twins.answers("60 change " + change + " counts twice", 0, x -> {
        restored(x);
        call.on(x);
      }, RingTransit::undo);
      RingTransit undone = Twins.made(UndoBoundsTest::restored);
      call.on(undone);
      undone.undo();
      Check.same(
          "60 as before change " + change, Twins.state(Twins.made(UndoBoundsTest::restored)),
          Twins.state(undone));
    }
  }

  private static void promise60ScriptIsOneChange() {
    for (String script : SCRIPTS) {
      Twins.Build build = x -> {
        restored(x);
        Check.answerOf(x::runScript);
      };
      RingTransit undone = Twins.made(build);
      Twins.script(undone, script);
      Check.same("60 one change: " + script, 0, undone.undo());
      Check.same("60 as before: " + script, Twins.state(Twins.made(build)), Twins.state(undone));
    }
  }

  private static void promise60SameStateIsAChange() {
    RingTransit x = new RingTransit();
    x.addStop(0);
    x.addLine(1, 0, 1, 1);
    for (int time = 0; time < 8; time++) {
      x.setRain(false);
    }
    Check.same("60 eight that changed nothing", 8, left(x));
    Check.same("60 they pushed the others out", 1, x.stopCount());
  }

  private static void promise60EightChanges() {
    for (int changes = 0; changes <= 10; changes++) {
      RingTransit x = Twins.made(y -> { });
      Twins.stops(x, changes);
      int can = Math.min(changes, 8);
      for (int left = can - 1; left >= 0; left--) {
        Check.same("60 left of " + changes, left, x.undo());
        Check.same("60 the latest first, of " + changes, changes - can + left, x.stopCount());
      }
      Check.fails("60 no more of " + changes, Twins.STATE, x::undo);
      Check.same("60 what stays of " + changes, changes - can, x.stopCount());
    }
  }

  private static void promise60ManyChanges() {
    RingTransit x = new RingTransit();
    for (int minute = 1; minute <= 30; minute++) {
      x.advance(1);
    }
    Check.same("60 after thirty", 7, x.undo());
    Check.same("60 after thirty, one back", 29, x.minute());
    Check.same("60 after thirty, all that can be", 7, left(x));
    Check.same("60 after thirty, eight back", 22, x.minute());
  }

  private static void promise60UndoAndNewChanges() {
    RingTransit x = new RingTransit();
    for (int minute = 1; minute <= 10; minute++) {
      x.advance(1);
    }
    Check.same("60 first", 7, x.undo());
    Check.same("60 second", 6, x.undo());
    x.advance(20);
    Check.same("60 seven of before, and one", 6, x.undo());
    Check.same("60 the new one is undone", 8, x.minute());
    for (int change = 0; change < 3; change++) {
      x.advance(40);
    }
    Check.same("60 eight at most", 7, x.undo());
    Check.same("60 two new ones stay", 88, x.minute());
    Check.same("60 to the earliest that can be", 7, left(x));
    Check.same("60 the ones before it stay", 3, x.minute());
  }

  private static void promise60RefusedCallsAreNoChanges() {
    Twins.Call[] refused = {
      x -> x.addStop(10), x -> x.addWalk(0, 0, 5), x -> x.addWalk(0, 3, 5), x -> x.removeWalk(0, 1),
      x -> x.addLine(0, 0, 1, 1), x -> x.extendLine(0, 4), x -> x.extendLine(2, 4),
      x -> x.shortenLine(3), x -> x.shortenLine(0), x -> x.setRainDelay(0, 6),
      x -> x.setClosed(6, true), x -> x.setSuspended(4, true), x -> x.sellTicket(0, 0, 0, 4),
      x -> x.sellTicket(0, 20, 0, 1), x -> x.refund(1), x -> x.advance(0),
    };
    for (int call = 0; call < refused.length; call++) {
      RingTransit x = Twins.made(Twins::rich);
      Twins.Call asked = refused[call];
      Object answer = Check.answerOf(() -> asked.on(x));
      Check.same("60 refused: " + answer, true, answer.toString().startsWith("throws"));
      Check.same("60 refused call " + call + " is no change", 8, left(x));
    }
  }

  private static void promise60NothingToUndo() {
    Twins.refused("60 a new object", Twins.STATE, Twins::empty, RingTransit::undo);
    Twins.refused("60 after restore", Twins.STATE, UndoBoundsTest::restored, RingTransit::undo);
    Twins.refused("60 all is undone", Twins.STATE, x -> {
      Twins.rich(x);
      for (int time = 0; time < 8; time++) {
        x.undo();
      }
    }, RingTransit::undo);
  }

  private static void promise60CoversNotTheTexts() {
    RingTransit x = Twins.made(Twins::rich);
    Check.same("60", 7, x.undo());
    Check.same("60 not the output text", "10/3+6x2:0>1>2", Twins.output(x));
    Check.same("60 not the error position", 5, x.errorPosition());
    Check.same("60 not the failed command", 1, x.failedCommand());
    Check.same("60 not the buffer", 3, x.type('y'));
    Check.same("60 not what is in the buffer", 1, x.runScript());
    RingTransit y = Twins.made(Twins::rich);
    y.save();
    y.undo();
    y.undo();
    Check.same("60 not the snapshot", 3, y.restore());
    Check.same("60 not what is in the snapshot", 4, y.minute());
  }

  private static void promise62CoversNotTheTexts() {
    RingTransit x = Twins.made(Twins::rich);
    Check.same("62", 3, x.restore());
    Check.same("62 not the output text", "10/3+6x2:0>1>2", Twins.output(x));
    Check.same("62 not the error position", 5, x.errorPosition());
    Check.same("62 not the failed command", 1, x.failedCommand());
    Check.same("62 not the buffer", 3, x.type('y'));
    Check.same("62 not what is in the buffer", 1, x.runScript());
  }

  private static void promise60And62CoverTheNextId() {
    RingTransit x = Twins.made(Twins::rich);
    Check.same("12 next id", 4, x.sellTicket(0, 0, 0, 1));
    x.undo();
    Check.same("60 next id again", 4, x.sellTicket(0, 1, 0, 1));
    x.restore();
    Check.same("62 next id again", 3, x.sellTicket(0, 2, 0, 1));
  }

  /** What rich had when it took its snapshot, but for the weather and the tickets. */
  private static void hasWhatRichHad(String what, RingTransit x) {
    Check.same(what + " the minute", 0, x.minute());
    Check.same(what + " the stops", 5, x.stopCount());
    for (int stop = 0; stop < 5; stop++) {
      Check.same(what + " the transfer minutes", 2 * stop, x.transferMinutes(stop));
      Check.same(what + " open stops", false, x.isClosed(stop));
    }
    Check.same(what + " a walk", 9, x.walkMinutes(0, 3));
    Check.same(what + " a walk, back", 9, x.walkMinutes(3, 0));
    Check.same(what + " a removed walk", 5, x.walkMinutes(3, 4));
    Check.same(what + " a removed walk, back", 5, x.walkMinutes(4, 3));
    int hop = x.isRaining() ? 6 : 2;
    String[] texts = {"10/3+" + hop + "x2:0>1>2", "7/5+3x1:2>3", "20/0+1x20:4", "30/9+4x3:"};
    Check.same(what + " the lines", texts.length, x.lineCount());
    for (int line = 0; line < texts.length; line++) {
      x.renderLine(line);
      Check.same(what + " line " + line, texts[line], Twins.output(x));
    }
    Check.same(what + " used tickets", 0, x.usedTickets());
    x.renderTicket(2);
    Check.same(what + " a ticket", "#2 1.30 0>2=6", Twins.output(x));
    Check.same(what + " the next id", 3, x.sellTicket(1, 0, 0, 1));
    Check.same(what + " the rain delay", 4, x.setRainDelay(0, 0));
    Check.same(what + " a rain delay of 0", 0, x.setRainDelay(1, 0));
    Check.same(what + " the number of walks", 3, x.addWalk(2, 4, 7));
  }

  private static void promise62BringsAllBack() {
    RingTransit x = Twins.made(UndoBoundsTest::restored);
    Check.same("62 the tickets", 3, x.ticketCount());
    Check.same("62 the refunded ticket", 1, x.ticketAt(1));
    Check.same("62 its ride begins", 1, x.ticketFrom(1));
    Check.same("62 its ride ends", 3, x.ticketTo(1));
    Check.same("62 the income", 18, x.income());
    Check.same("62 no refunds", 0, x.refundedCoins());
    Check.same("62 dry", false, x.isRaining());
    hasWhatRichHad("62", x);
  }

  private static void promise60BringsAllBack() {
    RingTransit x = Twins.made(Twins::rich);
    for (int left = 7; left >= 0; left--) {
      Check.same("60 left", left, x.undo());
    }
    Check.same("60 the tickets", 2, x.ticketCount());
    Check.same("60 the ticket after the refunded one", 2, x.ticketAt(1));
    Check.same("60 the income", 12, x.income());
    Check.same("60 the refund is too long ago", 6, x.refundedCoins());
    Check.same("60 so is the rain", true, x.isRaining());
    hasWhatRichHad("60", x);
  }

  /** Stops, walks and lines that are undone leave their places to others that are quite different. */
  private static void promises60And62PlacesAreTakenAgain() {
    RingTransit x = new RingTransit();
    x.save();
    for (int time = 0; time < 3; time++) {
      Twins.stops(x, 10);
      for (int stop = 0; stop < 10; stop++) {
        x.setClosed(stop, true);
      }
      x.addWalk(8, 9, 30);
      Twins.line(x, 60, 59, 9, 20, 9, 8, 7, 6, 5, 4);
      x.setSuspended(0, true);
      x.setRainDelay(0, 5);
      Check.same("62 none", 0, x.restore());
      Check.same("2 the first stop again", 0, x.addStop(9));
      Check.same("2 its transfer minutes", 9, x.transferMinutes(0));
      Check.same("2 it is open", false, x.isClosed(0));
      Check.same("5 the first line again", 0, x.addLine(1, 0, 1, 1));
      Check.same("5 its ring is empty", 0, x.ringSize(0));
      x.renderLine(0);
      Check.same("53 nothing of the other line", "1/0+1x1:", Twins.output(x));
      Check.same("9 its rain delay is 0", 0, x.setRainDelay(0, 1));
      Check.same("6 its first stop", 1, x.extendLine(0, 0));
      Twins.stops(x, 9);
      Check.fails("20 no walk is left", Twins.ELEMENT, () -> x.walkMinutes(8, 9));
      Check.same("3 the first walk again", 1, x.addWalk(9, 8, 1));
      x.restore();
    }
  }

  private static void promise61Save() {
    Twins.answers("61 none", 0, Twins::empty, RingTransit::save);
    Twins.answers("61 three", 3, Twins::rich, RingTransit::save);
    Twins.answers("61 sixteen", 16, x -> {
      Twins.stops(x, 2);
      Twins.line(x, 1, 0, 1, 20, 0, 1);
      for (int ticket = 0; ticket < 16; ticket++) {
        x.sellTicket(0, 50, 0, 1);
      }
    }, RingTransit::save);
    RingTransit x = Twins.made(Twins::rich);
    x.save();
    Check.same("61 is no change", 8, left(x));
    RingTransit y = Twins.made(Twins::rich);
    Check.same("61 replaces", 3, y.save());
    String saved = Twins.state(Twins.made(Twins::rich));
    y.advance(120);
    y.addStop(1);
    y.restore();
    Check.same("62 the later snapshot", saved, Twins.state(y));
  }

  private static void promise62Restore() {
    Twins.refused("62 no snapshot", Twins.STATE, Twins::empty, RingTransit::restore);
    Twins.refused("62 changes, no snapshot", Twins.STATE, x -> {
      Twins.stops(x, 10);
      x.setRain(true);
    }, RingTransit::restore);
    RingTransit x = Twins.made(Twins::rich);
    Check.same("62 tickets after the call", 3, x.restore());
    Check.fails("62 nothing to undo", Twins.STATE, x::undo);
    for (int time = 0; time < 3; time++) {
      x.refund(0);
      x.addStop(5);
      Check.same("62 is kept", 3, x.restore());
      Check.same("62 as saved", 5, x.stopCount());
      Check.fails("62 nothing to undo again", Twins.STATE, x::undo);
    }
    x.setRain(true);
    Check.same("60 a change after it", 0, x.undo());
    RingTransit y = new RingTransit();
    y.save();
    Twins.rich(y);
    y.undo();
    Check.same("62 of a later save", 3, y.restore());
  }

  private static void promise62EmptySnapshot() {
    RingTransit x = new RingTransit();
    Check.same("61 of a new object", 0, x.save());
    Twins.stops(x, 10);
    Twins.line(x, 1, 0, 1, 20, 0, 1);
    x.addWalk(0, 1, 1);
    x.sellTicket(0, 99, 0, 2);
    x.setRain(true);
    x.advance(120);
    Check.same("62 of a new object", 0, x.restore());
    Check.same(
        "62 as new", Twins.state(new RingTransit()), Twins.state(x));
  }

  /** Nothing of the state is shared: what is done after save or before undo leaves no mark. */
  private static void promise62NoMarkIsLeft() {
    for (int change = 0; change < CHANGES.length; change++) {
      RingTransit x = Twins.made(Twins::rich);
      x.save();
      Twins.Call call = CHANGES[change];
      Twins.answers("62 change " + change, 3, y -> {
        Twins.rich(y);
        y.save();
        call.on(y);
      }, RingTransit::restore);
      call.on(x);
      x.restore();
      Check.same(
          "62 as saved before change " + change, Twins.state(Twins.made(Twins::rich)), Twins.state(x));
      RingTransit y = Twins.made(Twins::rich);
      y.save();
      y.restore();
      call.on(y);
      y.restore();
      Check.same(
          "62 the snapshot is kept from change " + change, Twins.state(Twins.made(Twins::rich)),
          Twins.state(y));
    }
  }

  /** The 512th call answers as the first ones do. */
  private static void whatItIs512Calls() {
    RingTransit x = new RingTransit();
    for (int call = 1; call <= 511; call++) {
      Check.same("14 call " + call, 0, x.advance(120));
    }
    Check.same("15 call 512", 511 * 120, x.minute());
    RingTransit y = new RingTransit();
    y.addStop(0);
    y.addStop(0);
    Twins.line(y, 1, 0, 1, 1, 0, 1);
    for (int id = 0; id < 253; id++) {
      Check.same("12 id " + id, id, y.sellTicket(0, 0, 0, 1));
      y.refund(id);
    }
    Check.same("46 call 512", 253 * 3, y.refundedCoins());
    RingTransit z = new RingTransit();
    for (int call = 1; call <= 511; call++) {
      z.setRain(call % 2 == 1);
    }
    Check.same("60 call 512", 7, z.undo());
    RingTransit late = Twins.made(Twins::rich);
    for (int call = 0; call < 300; call++) {
      late.advance(120);
    }
    Check.same("30 the latest minute", true, late.isConsistent());
  }

  private static void changesNone() {
    Twins.onlyLooks("15", Twins::rich, RingTransit::minute);
    Twins.onlyLooks("16", Twins::rich, RingTransit::isRaining);
    Twins.onlyLooks("17", Twins::rich, RingTransit::stopCount);
    Twins.onlyLooks("18", Twins::rich, x -> x.transferMinutes(5));
    Twins.onlyLooks("19", Twins::rich, x -> x.isClosed(1));
    Twins.onlyLooks("20", Twins::rich, x -> x.walkMinutes(3, 0));
    Twins.onlyLooks("21", Twins::rich, RingTransit::lineCount);
    Twins.onlyLooks("22", Twins::rich, x -> x.ringSize(3));
    Twins.onlyLooks("23", Twins::rich, x -> x.stopAt(0, 3));
    Twins.onlyLooks("24", Twins::rich, x -> x.positionOf(0, 2));
    Twins.onlyLooks("25", Twins::rich, x -> x.hopMinutes(0));
    Twins.onlyLooks("26", Twins::rich, x -> x.runs(3));
    Twins.onlyLooks("40", Twins::rich, x -> x.ticketLine(3));
    Twins.onlyLooks("41", Twins::rich, x -> x.ticketTrip(3));
    Twins.onlyLooks("42", Twins::rich, x -> x.ticketFrom(3));
    Twins.onlyLooks("43", Twins::rich, x -> x.ticketTo(3));
    Twins.onlyLooks("46", Twins::rich, RingTransit::refundedCoins);
    Twins.onlyLooks("47", Twins::rich, RingTransit::usedTickets);
    Twins.onlyLooks("53 the same text", Twins::rich, x -> x.renderLine(0));
  }

  public static void main(String[] args) {
    promise60EachChangeCounts();
    promise60ScriptIsOneChange();
    promise60SameStateIsAChange();
    promise60EightChanges();
    promise60ManyChanges();
    promise60UndoAndNewChanges();
    promise60RefusedCallsAreNoChanges();
    promise60NothingToUndo();
    promise60CoversNotTheTexts();
    promise62CoversNotTheTexts();
    promise60And62CoverTheNextId();
    promise60BringsAllBack();
    promise62BringsAllBack();
    promises60And62PlacesAreTakenAgain();
    promise61Save();
    promise62Restore();
    promise62EmptySnapshot();
    promise62NoMarkIsLeft();
    whatItIs512Calls();
    changesNone();
    Check.end("UndoBoundsTest");
  }
}
