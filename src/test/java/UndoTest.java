import java.util.function.Consumer;

/** Promises 60 to 62: undo, the snapshot, and what is a change. */
public final class UndoTest {
  private static final Class<?> STATE = IllegalStateException.class;

  private UndoTest() {
  }

  private static RingTransit withRing() {
    RingTransit x = new RingTransit();
    for (int stop = 0; stop < 4; stop++) {
      x.addStop(stop);
    }
    x.addLine(10, 0, 4, 2);
    x.extendLine(0, 0);
    x.extendLine(0, 1);
    x.extendLine(0, 2);
    x.addWalk(0, 3, 9);
    x.sellTicket(0, 50, 0, 2);
    return x;
  }

  private static String text(RingTransit x) {
    StringBuilder text = new StringBuilder();
    text.append(x.minute()).append(x.isRaining()).append(x.stopCount()).append(x.lineCount());
    text.append(' ').append(x.ticketCount()).append(' ').append(x.income());
    text.append(' ').append(x.refundedCoins()).append(' ').append(x.usedTickets());
    for (int stop = 0; stop < x.stopCount(); stop++) {
      text.append(' ').append(x.transferMinutes(stop)).append(x.isClosed(stop));
      for (int other = 0; other < x.stopCount(); other++) {
        int first = stop;
        int second = other;
        text.append(Check.answerOf(() -> x.walkMinutes(first, second)));
      }
    }
    for (int line = 0; line < x.lineCount(); line++) {
      int length = x.renderLine(line);
      for (int index = 0; index < length; index++) {
        text.append(x.outputAt(index));
      }
    }
    for (int place = 0; place < x.ticketCount(); place++) {
      text.append(' ').append(x.ticketAt(place));
    }
    return text.toString();
  }

  private static void script(RingTransit x, String script) {
    for (int index = 0; index < script.length(); index++) {
      x.type(script.charAt(index));
    }
    x.runScript();
  }

  private static void undone(String what, Consumer<RingTransit> change) {
    RingTransit x = withRing();
    String was = text(x);
    change.accept(x);
    Check.same("60 undone: " + what, 7, x.undo());
    Check.same("60 as before: " + what, was, text(x));
    Check.same("60 undone: before " + what, 6, x.undo());
  }

  private static void everyChange() {
    undone("addStop", x -> x.addStop(3));
    undone("addWalk", x -> x.addWalk(1, 2, 3));
    undone("removeWalk", x -> x.removeWalk(3, 0));
    undone("addLine", x -> x.addLine(1, 2, 3, 4));
    undone("setRain", x -> x.setRain(true));
    undone("setRain same", x -> x.setRain(false));
    undone("setRainDelay", x -> x.setRainDelay(0, 4));
    undone("setRainDelay same", x -> x.setRainDelay(0, 0));
    undone("setClosed", x -> x.setClosed(2, true));
    undone("setClosed same", x -> x.setClosed(2, false));
    undone("setSuspended", x -> x.setSuspended(0, true));
    undone("setSuspended same", x -> x.setSuspended(0, false));
    undone("sellTicket", x -> x.sellTicket(0, 1, 0, 1));
    undone("refund", x -> x.refund(0));
    undone("advance", x -> x.advance(120));
  }

  private static void ringChanges() {
    RingTransit x = withRing();
    x.refund(0);
    String was = text(x);
    x.shortenLine(0);
    x.extendLine(0, 3);
    Check.same("60 extendLine", 7, x.undo());
    Check.same("60 shortenLine", 6, x.undo());
    Check.same("60 ring as before", was, text(x));
  }

  private static void scriptIsOneChange() {
    RingTransit x = withRing();
    String was = text(x);
    script(x, "stop 1;rain;wait 9;refund 0;cut 0");
    Check.same("60 script", 7, x.undo());
    Check.same("60 script as before", was, text(x));
  }

  private static void onlyChangesCount() {
    RingTransit x = new RingTransit();
    x.addStop(1);
    x.addStop(1);
    x.save();
    x.type('?');
    Check.answerOf(x::runScript);
    Check.answerOf(() -> x.addStop(10));
    Check.answerOf(() -> x.advance(0));
    Check.answerOf(() -> x.refund(0));
    x.isConsistent();
    x.flow(0, 1);
    Check.same("60 only changes", 1, x.undo());
    Check.same("58 undo does not cover it", 0, x.errorPosition());
    Check.same("60 to the first", 0, x.undo());
    Check.fails("60 nothing left", STATE, x::undo);
    Check.same("60 empty", 0, x.stopCount());
  }

  private static void eightChanges() {
    RingTransit x = new RingTransit();
    for (int stop = 0; stop < 10; stop++) {
      x.addStop(stop);
    }
    for (int left = 7; left >= 0; left--) {
      Check.same("60 left", left, x.undo());
    }
    Check.fails("60 a ninth", STATE, x::undo);
    Check.same("60 two stay", 2, x.stopCount());
    x.addStop(7);
    x.addStop(8);
    Check.same("60 new changes", 1, x.undo());
    Check.same("60 the earlier one stays", 7, x.transferMinutes(2));
  }

  private static void ticketIds() {
    RingTransit x = withRing();
    Check.same("60 id", 1, x.sellTicket(0, 1, 0, 1));
    x.undo();
    Check.same("60 id again", 1, x.sellTicket(0, 2, 0, 1));
    x.save();
    x.sellTicket(0, 3, 0, 1);
    x.refund(0);
    Check.same("62 tickets", 2, x.restore());
    Check.same("62 id again", 2, x.sellTicket(0, 3, 0, 1));
    Check.same("62 first ticket", 0, x.ticketAt(0));
  }

  private static void snapshots() {
    RingTransit x = withRing();
    Check.fails("62 none", STATE, x::restore);
    Check.same("61 tickets", 1, x.save());
    String was = text(x);
    script(x, "rain;wait 7;refund 0;close 1;halt 0;walk 1-2 3;stop 9");
    x.undo();
    x.addStop(5);
    Check.same("62 tickets back", 1, x.restore());
    Check.same("62 as saved", was, text(x));
    Check.fails("62 nothing to undo", STATE, x::undo);
    x.advance(9);
    Check.same("60 after restore", 0, x.undo());
    x.refund(0);
    Check.same("62 is kept", 1, x.restore());
    Check.same("62 as saved again", was, text(x));
    x.refund(0);
    Check.same("61 replaces", 0, x.save());
    x.setRain(true);
    Check.same("62 the later one", 0, x.restore());
    Check.same("62 dry", false, x.isRaining());
  }

  /** What comes in the place of something undone must take nothing from it, nor leave a trace. */
  private static void placesAreTakenAgain() {
    RingTransit x = new RingTransit();
    x.addStop(3);
    x.addLine(7, 5, 3, 9);
    x.setRainDelay(0, 4);
    x.setSuspended(0, true);
    x.extendLine(0, 0);
    x.setClosed(0, true);
    x.save();
    String was = text(x);
    for (int left = 5; left >= 0; left--) {
      Check.same("60 left", left, x.undo());
    }
    x.addStop(8);
    x.addStop(1);
    x.addLine(60, 59, 9, 20);
    Check.same("60 new line", "0false21 0 0 0 0", text(x).substring(0, 16));
    Check.same("60 new stop is open", false, x.isClosed(0));
    Check.same("60 new ring is empty", 0, x.ringSize(0));
    x.extendLine(0, 1);
    x.extendLine(0, 0);
    Check.same("60 new line is not suspended", true, x.runs(0));
    Check.same("60 new line has no rain delay", 0, x.setRainDelay(0, 1));
    x.restore();
    Check.same("62 all of the old line and stop", was, text(x));
    Check.same("62 rain delay", 4, x.setRainDelay(0, 0));
    Check.same("62 transfer", 3, x.transferMinutes(0));
  }

  private static void newLineAfterRestoreIsNew() {
    RingTransit x = new RingTransit();
    x.addStop(0);
    x.addStop(0);
    x.save();
    x.addLine(7, 5, 3, 9);
    x.extendLine(0, 1);
    x.setRainDelay(0, 4);
    x.setSuspended(0, true);
    x.setClosed(1, true);
    x.addStop(0);
    x.setClosed(2, true);
    x.restore();
    Check.same("62 line is gone", 0, x.lineCount());
    x.addLine(8, 0, 1, 1);
    Check.same("5 empty ring", 0, x.ringSize(0));
    Check.same("5 no rain delay", 0, x.setRainDelay(0, 1));
    Check.same("5 not suspended", false, x.setSuspended(0, false));
    x.addStop(0);
    Check.same("2 open stop", false, x.isClosed(2));
  }

  private static void ticketsComeBackWhole() {
    RingTransit x = withRing();
    x.sellTicket(0, 7, 1, 3);
    x.save();
    x.refund(0);
    x.refund(1);
    x.setRain(true);
    x.sellTicket(0, 8, 0, 1);
    x.sellTicket(0, 9, 2, 3);
    x.restore();
    int length = x.renderTicket(1);
    StringBuilder text = new StringBuilder();
    for (int index = 0; index < length; index++) {
      text.append(x.outputAt(index));
    }
    Check.same("62 ticket", "#1 0.7 1>3=6", text.toString());
    Check.same("62 first ticket", 50, x.ticketTrip(0));
    Check.same("62 its price", 6, x.ticketPrice(0));
  }

  private static void undoAndSnapshotAreApart() {
    RingTransit x = withRing();
    x.addStop(9);
    x.save();
    Check.same("60 save is no change", 7, x.undo());
    Check.same("60 stops", 4, x.stopCount());
    x.restore();
    Check.same("62 undo does not cover the snapshot", 5, x.stopCount());
  }

  private static void bufferStays() {
    RingTransit x = new RingTransit();
    x.save();
    x.addStop(3);
    x.type('d');
    x.undo();
    x.type('r');
    x.restore();
    Check.same("60 and 62 leave the buffer", 3, x.type('y'));
    Check.same("57 whole", 1, x.runScript());
  }

  public static void main(String[] args) {
    everyChange();
    ringChanges();
    scriptIsOneChange();
    onlyChangesCount();
    eightChanges();
    ticketIds();
    snapshots();
    placesAreTakenAgain();
    newLineAfterRestoreIsNew();
    ticketsComeBackWhole();
    undoAndSnapshotAreApart();
    bufferStays();
    Check.end("UndoTest");
  }
}
