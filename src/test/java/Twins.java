import java.util.NoSuchElementException;

/**
 * Makes the same object twice, asks a call of one of the two only, and compares all that can be
 * seen of both afterwards: so a refused call is shown to have changed nothing.
 *
 * <p>No object here takes more than 512 calls, beyond which the document promises nothing.
 */
final class Twins {
  static final Class<?> INDEX = IndexOutOfBoundsException.class;
  static final Class<?> ARGUMENT = IllegalArgumentException.class;
  static final Class<?> STATE = IllegalStateException.class;
  static final Class<?> ELEMENT = NoSuchElementException.class;
  static final Class<?> UNSUPPORTED = UnsupportedOperationException.class;
  static final Class<?> ARITHMETIC = ArithmeticException.class;
  static final int LEAST = Integer.MIN_VALUE;
  static final int GREATEST = Integer.MAX_VALUE;

  interface Build {
    void on(RingTransit x);
  }

  interface Call {
    Object on(RingTransit x);
  }

  /** A call with one argument left open. */
  interface IntCall {
    Object on(RingTransit x, int value);
  }

  private Twins() {
  }

  static void empty(RingTransit x) {
  }

  /**
   * Six stops, four lines (rings of 3, 2, 1 and 0 stops), a walk, rain, a closed stop, a suspended
   * line, three tickets, a snapshot, eight changes and more, an output text, the two script errors,
   * and "dr" in the buffer: whatever a call loses or adds shows.
   */
  static void rich(RingTransit x) {
    Check.answerOf(() -> script(x, "stop x"));
    Check.answerOf(() -> script(x, "dry;cut 9"));
    for (int stop = 0; stop < 5; stop++) {
      x.addStop(2 * stop);
    }
    line(x, 10, 3, 2, 2, 0, 1, 2);
    line(x, 7, 5, 3, 1, 2, 3);
    line(x, 20, 0, 1, 20, 4);
    line(x, 30, 9, 4, 3);
    x.addWalk(0, 3, 9);
    x.addWalk(3, 4, 5);
    x.setRainDelay(0, 4);
    x.sellTicket(0, 20, 0, 2);
    x.sellTicket(0, 20, 1, 3);
    x.sellTicket(1, 30, 0, 2);
    x.save();
    x.refund(1);
    x.setRain(true);
    x.setClosed(1, true);
    x.setSuspended(3, true);
    x.advance(3);
    x.sellTicket(0, 20, 0, 1);
    x.removeWalk(3, 4);
    x.addStop(9);
    x.setRainDelay(1, 2);
    script(x, "open 2;wait 1");
    x.renderLine(0);
    x.type('d');
    x.type('r');
  }

  static Object script(RingTransit x, String text) {
    type(x, text);
    return x.runScript();
  }

  static void type(RingTransit x, String text) {
    for (int index = 0; index < text.length(); index++) {
      x.type(text.charAt(index));
    }
  }

  static int line(RingTransit x, int headway, int offset, int hop, int seats, int... ring) {
    int line = x.addLine(headway, offset, hop, seats);
    for (int stop : ring) {
      x.extendLine(line, stop);
    }
    return line;
  }

  static void stops(RingTransit x, int count) {
    for (int stop = 0; stop < count; stop++) {
      x.addStop(0);
    }
  }

  static RingTransit made(Build build) {
    RingTransit x = new RingTransit();
    build.on(x);
    return x;
  }

  static void answers(String what, Object want, Build build, Call call) {
    RingTransit x = made(build);
    Check.same(what, want, Check.answerOf(() -> call.on(x)));
  }

  /** The call throws exactly this, and nothing that can be seen has changed. */
  static void refused(String what, Class<?> want, Build build, Call call) {
    for (int way = 0; way < 4; way++) {
      RingTransit asked = made(build);
      Check.fails(what, want, () -> call.on(asked));
      same(what, way, made(build), asked);
    }
  }

  /** The call answers, and nothing that can be seen has changed. */
  static void onlyLooks(String what, Build build, Call call) {
    for (int way = 0; way < 4; way++) {
      RingTransit asked = made(build);
      Object answer = Check.answerOf(() -> call.on(asked));
      Check.same(what + " answers: " + answer, false, answer.toString().startsWith("throws"));
      same(what, way, made(build), asked);
    }
  }

  static void refusedStops(String what, Build build, int count, IntCall call) {
    for (int stop : new int[] {-1, count, LEAST, GREATEST}) {
      refused(what + ", of " + count + " stops number " + stop, INDEX, build, x -> call.on(x, stop));
    }
  }

  static void refusedLines(String what, Build build, int count, IntCall call) {
    for (int line : new int[] {-1, count, LEAST, GREATEST}) {
      refused(what + ", of " + count + " lines number " + line, INDEX, build, x -> call.on(x, line));
    }
  }

  static void refusedTickets(String what, Build build, IntCall call, int... ids) {
    for (int id : ids) {
      refused(what + ", ticket " + id, ELEMENT, build, x -> call.on(x, id));
    }
  }

  private static void same(String what, int way, RingTransit want, RingTransit got) {
    String[] ways = {"the state", "what undo brings", "what restore brings", "the script buffer"};
    Check.same(what + ": " + ways[way] + " stays", tell(want, way), tell(got, way));
  }

  private static String tell(RingTransit x, int way) {
    switch (way) {
      case 1:
        StringBuilder text = new StringBuilder();
        for (int time = 0; time < 9; time++) {
          text.append(Check.answerOf(x::undo)).append(brief(x)).append('\n');
        }
        return text.append(state(x)).toString();
      case 2:
        return Check.answerOf(x::restore) + "\n" + Check.answerOf(x::undo) + "\n" + state(x);
      case 3:
        return Check.answerOf(() -> x.type('y')) + "\n" + Check.answerOf(x::runScript) + "\n" + state(x);
      default:
        return state(x);
    }
  }

  private static String brief(RingTransit x) {
    StringBuilder text = new StringBuilder(" ");
    text.append(x.minute()).append(x.isRaining()).append(x.stopCount()).append(x.lineCount());
    text.append(' ').append(x.ticketCount()).append(' ').append(x.income());
    text.append(' ').append(x.refundedCoins()).append(' ').append(x.usedTickets());
    return text.toString();
  }

  /** All that can be seen; what has no call that only looks at it is asked for last, by a change. */
  static String state(RingTransit x) {
    StringBuilder text = new StringBuilder(output(x));
    text.append('\n').append(Check.answerOf(x::errorPosition));
    text.append('\n').append(Check.answerOf(x::failedCommand));
    text.append('\n').append(brief(x)).append('\n');
    stopsAndWalks(x, text);
    for (int line = 0; line < x.lineCount(); line++) {
      x.renderLine(line);
      text.append('\n').append(output(x));
    }
    tickets(x, text);
    text.append("\nwalks ").append(Check.answerOf(() -> x.addWalk(1, 2, 1)));
    x.setRain(true);
    for (int line = 0; line < x.lineCount(); line++) {
      int asked = line;
      text.append("\nin rain ").append(x.hopMinutes(line));
      text.append(" sells ").append(Check.answerOf(() -> x.sellTicket(asked, 97, 0, 1)));
    }
    return text.toString();
  }

  private static void stopsAndWalks(RingTransit x, StringBuilder text) {
    int count = x.stopCount();
    for (int stop = 0; stop < count; stop++) {
      text.append(' ').append(x.transferMinutes(stop)).append(x.isClosed(stop));
      for (int other = stop + 1; other < count; other++) {
        int first = stop;
        int second = other;
        text.append(' ').append(Check.answerOf(() -> x.walkMinutes(first, second)));
      }
    }
  }

  private static void tickets(RingTransit x, StringBuilder text) {
    int count = x.ticketCount();
    for (int place = 0; place < count; place++) {
      int id = x.ticketAt(place);
      text.append("\n#").append(id).append(' ').append(x.ticketLine(id));
      text.append('.').append(x.ticketTrip(id)).append(' ').append(x.ticketFrom(id));
      text.append('>').append(x.ticketTo(id)).append('=').append(x.ticketPrice(id));
    }
  }

  static String output(RingTransit x) {
    StringBuilder text = new StringBuilder();
    for (int index = 0; index < 40; index++) {
      int asked = index;
      Object sign = Check.answerOf(() -> x.outputAt(asked));
      if (sign.toString().startsWith("throws")) {
        break;
      }
      text.append(sign);
    }
    return text.toString();
  }
}
