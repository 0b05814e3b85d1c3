import java.util.NoSuchElementException;

/** Promises 53 to 59: the output text and scripts. */
public final class TextsTest {
  private static final Class<?> INDEX = IndexOutOfBoundsException.class;
  private static final Class<?> ARGUMENT = IllegalArgumentException.class;
  private static final Class<?> STATE = IllegalStateException.class;
  private static final Class<?> ELEMENT = NoSuchElementException.class;

  private TextsTest() {
  }

  private static String output(RingTransit x, int length) {
    StringBuilder text = new StringBuilder();
    for (int index = 0; index < length; index++) {
      text.append(x.outputAt(index));
    }
    Check.fails("55 beyond", INDEX, () -> x.outputAt(length));
    Check.fails("55 below", INDEX, () -> x.outputAt(-1));
    return text.toString();
  }

  private static void type(RingTransit x, String text) {
    for (int index = 0; index < text.length(); index++) {
      Check.same("56 length", index + 1, x.type(text.charAt(index)));
    }
  }

  private static void runs(RingTransit x, String text, int want) {
    type(x, text);
    Check.same("57 " + text, want, x.runScript());
  }

  private static void malformed(String text, int position) {
    RingTransit x = new RingTransit();
    type(x, text);
    Check.fails("57 " + text, ARGUMENT, x::runScript);
    Check.same("58 " + text, position, x.errorPosition());
    Check.fails("59 " + text, ELEMENT, x::failedCommand);
    Check.same("57 empty buffer", 1, x.type('x'));
    Check.same("57 nothing done", 0, x.stopCount());
  }

  private static void failing(RingTransit x, String text, int command) {
    type(x, text);
    Check.fails("57 " + text, STATE, x::runScript);
    Check.same("59 " + text, command, x.failedCommand());
  }

  private static void lineTexts() {
    RingTransit x = new RingTransit();
    for (int stop = 0; stop < 5; stop++) {
      x.addStop(0);
    }
    x.addLine(10, 3, 2, 20);
    Check.same("53 empty ring", "10/3+2x20:", output(x, x.renderLine(0)));
    x.extendLine(0, 0);
    Check.same("53 one stop", "10/3+2x20:0", output(x, x.renderLine(0)));
    x.extendLine(0, 4);
    x.extendLine(0, 2);
    x.setSuspended(0, true);
    Check.same("53 length", 16, x.renderLine(0));
    Check.same("53", "10/3+2x20:0>4>2!", output(x, 16));
    x.setRainDelay(0, 5);
    x.setRain(true);
    x.setSuspended(0, false);
    Check.same("53 in rain", "10/3+7x20:0>4>2", output(x, x.renderLine(0)));
    Check.fails("53 index", INDEX, () -> x.renderLine(1));
    Check.fails("53 index below", INDEX, () -> x.renderLine(-1));
    Check.same("53 text stays", "10/3+7x20:0>4>2", output(x, 15));
    x.undo();
    Check.same("53 undo does not cover the text", "10/3+7x20:0>4>2", output(x, 15));
  }

  private static void ticketTexts() {
    RingTransit x = new RingTransit();
    x.addStop(0);
    x.addStop(0);
    x.addStop(0);
    x.addLine(60, 59, 9, 20);
    x.extendLine(0, 2);
    x.extendLine(0, 1);
    x.extendLine(0, 0);
    for (int ticket = 0; ticket < 4; ticket++) {
      x.sellTicket(0, 5, 0, 1);
    }
    x.sellTicket(0, 12, 1, 3);
    Check.same("54 length", 13, x.renderTicket(4));
    Check.same("54", "#4 0.12 1>3=6", output(x, 13));
    x.advance(120);
    x.advance(120);
    Check.same("54 after a line", "#4 0.12 1>3=6", output(x, x.renderTicket(4)));
  }

  private static void typing() {
    RingTransit x = new RingTransit();
    Check.fails("56 low", ARGUMENT, () -> x.type((char) 31));
    Check.fails("56 high", ARGUMENT, () -> x.type((char) 127));
    Check.fails("56 far", ARGUMENT, () -> x.type((char) 65535));
    Check.same("56 blank", 1, x.type(' '));
    Check.same("56 tilde", 2, x.type('~'));
    for (int length = 3; length <= 60; length++) {
      Check.same("56 length", length, x.type('a'));
    }
    Check.fails("56 full", STATE, () -> x.type('a'));
    Check.fails("56 order", ARGUMENT, () -> x.type((char) 127));
    Check.fails("57 full", ARGUMENT, x::runScript);
    Check.same("58 full", 0, x.errorPosition());
    Check.same("56 empty again", 1, x.type('a'));
  }

  private static void commands() {
    RingTransit x = new RingTransit();
    runs(x, "stop 1;stop 2;stop 9;line 60/59 2x3;line 5/0 1x20", 5);
    Check.same("57 stop", 9, x.transferMinutes(2));
    runs(x, "add 0 2;add 0 1;walk 0-2 30;rain", 4);
    Check.same("57 add", 2, x.stopAt(0, 0));
    Check.same("57 walk", 30, x.walkMinutes(0, 2));
    Check.same("57 rain", true, x.isRaining());
    Check.same("57 line", "60/59+2x3:2>1", output(x, x.renderLine(0)));
    runs(x, "close 1;halt 1;sell 0 99 0>2;dry;sell 0 0 1>2", 5);
    Check.same("57 close", true, x.isClosed(1));
    Check.same("57 sell in rain", 4, x.ticketPrice(0));
    Check.same("57 sell dry", 3, x.ticketPrice(1));
    Check.same("57 sell trip", 99, x.ticketTrip(0));
    Check.same("57 sell from", 1, x.ticketFrom(1));
    Check.same("57 sell to", 2, x.ticketTo(1));
    Check.same("57 halt", "5/0+1x20:!", output(x, x.renderLine(1)));
    runs(x, "open 1;go 1;wait 120;refund 0;cut 0", 5);
    Check.same("57 open", false, x.isClosed(1));
    Check.same("57 go", "5/0+1x20:", output(x, x.renderLine(1)));
    Check.same("57 wait", 120, x.minute());
    Check.same("57 used", 1, x.usedTickets());
    Check.same("57 refund", 4, x.refundedCoins());
    Check.same("57 cut", 1, x.ringSize(0));
    runs(x, "wait 001", 1);
    Check.same("57 leading zeros", 121, x.minute());
    runs(x, "dry;dry;dry;dry;dry;dry;dry;dry;dry;dry;dry;dry;dry;dry;dry", 15);
  }

  private static void errorPositions() {
    malformed("", 0);
    malformed(" ", 0);
    malformed("x", 0);
    malformed("s", 1);
    malformed("st", 2);
    malformed("sx", 1);
    malformed("se ", 2);
    malformed("stop", 4);
    malformed("stop1", 4);
    malformed("stop ", 5);
    malformed("stop x", 5);
    malformed("stop 12", 6);
    malformed("stop 1;", 7);
    malformed("stop 1;;", 7);
    malformed("stop 1; ", 7);
    malformed("stop 1 ", 6);
    malformed("Stop 1", 0);
    malformed("wax", 2);
    malformed("walk 0-1", 8);
    malformed("walk 0-1;dry", 8);
    malformed("walk 0 1 5", 6);
    malformed("walk 0-1 1234", 12);
    malformed("walk 0-1 5x", 10);
    malformed("wait ", 5);
    malformed("wait 1234", 8);
    malformed("wait -1", 5);
    malformed("line 1234/5 1x1", 8);
    malformed("line /5 1x1", 5);
    malformed("line 1/5 11x1", 10);
    malformed("line 1/5 1x", 11);
    malformed("line 1/5 1>1", 10);
    malformed("add 0", 5);
    malformed("add 0 ;", 6);
    malformed("cl", 2);
    malformed("cu;", 2);
    malformed("cuts 1", 3);
    malformed("rain 1", 4);
    malformed("rai", 3);
    malformed("re", 2);
    malformed("refund", 6);
    malformed("ran", 2);
    malformed("dry;rain;", 9);
    malformed("dryd", 3);
    malformed("sell 0 1 0-2", 10);
    malformed("sell 0 1234 0>2", 10);
    malformed("sell 0 123 0>", 13);
    malformed("close", 5);
    malformed("open x", 5);
    malformed("go  1", 3);
    malformed("halt 1;go", 9);
    malformed("dry;dry;dry;dry;dry;dry;dry;dry;dry;dry;dry;dry;dry;dry;dry;", 60);
  }

  private static void allOrNothing() {
    RingTransit x = new RingTransit();
    failing(x, "stop 1;stop 2;rain;stop 3;line 0/0 1x1;stop 4", 4);
    Check.same("57 nothing done", 0, x.stopCount());
    Check.same("57 still dry", false, x.isRaining());
    Check.fails("57 no change", STATE, x::undo);
    Check.fails("58 none", ELEMENT, x::errorPosition);
    runs(x, "stop 1;stop 2;line 1/0 1x1;add 0 0;add 0 1", 5);
    Check.same("59 of the latest that failed", 4, x.failedCommand());
    String[] faults = {
      "walk 0-9 5", "walk 1-1 5", "walk 0-1 31", "add 1 0", "add 0 0", "cut 1", "close 9", "open 9",
      "halt 1", "go 9", "sell 1 0 0>1", "sell 0 100 0>1", "sell 0 0 1>1", "refund 0", "wait 0",
      "wait 121", "line 61/0 1x1", "line 1/60 1x1", "line 1/0 0x1", "line 1/0 1x21", "line 1/0 1x0",
    };
    for (String fault : faults) {
      failing(x, fault, 0);
      failing(x, "dry;stop 3;" + fault + ";dry", 2);
      Check.same("57 nothing of " + fault, 2, x.stopCount());
    }
    failing(x, "sell 0 9 0>2;sell 0 9 1>2", 1);
    Check.same("57 nothing sold", 0, x.ticketCount() + x.income());
    runs(x, "sell 0 9 0>2", 1);
    Check.same("57 id after what failed", 0, x.ticketAt(0));
    failing(x, "wait 120;refund 0", 1);
    Check.same("57 no minute passed", 0, x.minute() + x.usedTickets());
    type(x, "!");
    Check.fails("57 form", ARGUMENT, x::runScript);
    Check.same("58", 0, x.errorPosition());
    Check.same("59 stays", 1, x.failedCommand());
  }

  private static void failuresKeepTheHistory() {
    RingTransit x = new RingTransit();
    for (int stop = 0; stop < 9; stop++) {
      x.addStop(stop);
    }
    failing(x, "rain;stop 1;stop 1", 2);
    for (int left = 7; left >= 0; left--) {
      Check.same("60 after a failed script", left, x.undo());
      Check.same("60 stops", left + 1, x.stopCount());
    }
  }

  public static void main(String[] args) {
    lineTexts();
    ticketTexts();
    typing();
    commands();
    errorPositions();
    allOrNothing();
    failuresKeepTheHistory();
    Check.end("TextsTest");
  }
}
