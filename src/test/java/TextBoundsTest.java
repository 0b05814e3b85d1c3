import java.util.regex.Pattern;

/** Each boundary that promises 53 to 59 and the form of scripts name, with a test of its own. */
public final class TextBoundsTest {
  private static final String DRY_14 = "dry;".repeat(14);
  private static final Pattern NUMBER_AT_THE_END =
      Pattern.compile("(walk \\d-\\d|line \\d+/\\d+ \\dx|refund|wait) ?\\d{1,3}");

  private TextBoundsTest() {
  }

  /** As rich, but the buffer is empty, and the latest wrong script was wrong at 2. */
  private static void ready(RingTransit x) {
    Twins.rich(x);
    Check.answerOf(x::runScript);
  }

  /** As rich, but the buffer is empty, and the latest wrong script was wrong at 9. */
  private static void readyAt9(RingTransit x) {
    Twins.rich(x);
    Check.answerOf(() -> Twins.script(x, "y;stop x"));
  }

  private static void fullBuffer(RingTransit x) {
    Twins.rich(x);
    Twins.type(x, "y;" + "a".repeat(56));
  }

  private static String line(RingTransit x, int line) {
    int length = x.renderLine(line);
    String text = Twins.output(x);
    Check.same("53 length of " + text, text.length(), length);
    return text;
  }

  private static void promise53Lines() {
    Twins.refusedLines("53", Twins::rich, 4, (x, line) -> x.renderLine(line));
    Twins.refusedLines("53", Twins::empty, 0, (x, line) -> x.renderLine(line));
    Twins.refusedLines("53", y -> {
      Twins.rich(y);
      y.addLine(1, 0, 1, 1);
    }, 5, (x, line) -> x.renderLine(line));
  }

  private static void promise53LeastAndGreatest() {
    RingTransit x = Twins.made(y -> Twins.stops(y, 10));
    Twins.line(x, 1, 0, 1, 1);
    Twins.line(x, 60, 59, 9, 20, 9, 8, 7, 6, 5, 0);
    x.setRainDelay(1, 5);
    Check.same("53 empty ring", "1/0+1x1:", line(x, 0));
    Check.same("53 full ring, dry", "60/59+9x20:9>8>7>6>5>0", line(x, 1));
    x.setRain(true);
    x.setSuspended(0, true);
    x.setSuspended(1, true);
    Check.same("53 empty ring, suspended", "1/0+1x1:!", line(x, 0));
    Check.same("53 full ring, rain, suspended", "60/59+14x20:9>8>7>6>5>0!", line(x, 1));
    x.shortenLine(1);
    Check.same("55 the text stays", "60/59+14x20:9>8>7>6>5>0!", Twins.output(x));
    Check.same("53 replaces a longer text", "1/0+1x1:!", line(x, 0));
    Check.fails("55 nothing is left of the longer text", Twins.INDEX, () -> x.outputAt(9));
  }

  private static void promise54LeastAndGreatest() {
    RingTransit x = Twins.made(y -> Twins.stops(y, 6));
    for (int line = 0; line < 5; line++) {
      Twins.line(x, 60, 59, 9, 20, 0, 1, 2, 3, 4, 5);
    }
    x.sellTicket(0, 0, 0, 1);
    Check.same("54 length", 12, x.renderTicket(0));
    Check.same("54 least", "#0 0.0 0>1=3", Twins.output(x));
    for (int id = 1; id < 100; id++) {
      x.refund(x.sellTicket(0, 0, 0, 1));
    }
    x.sellTicket(4, 99, 0, 6);
    Check.same("54 length", 16, x.renderTicket(100));
    Check.same("54 greatest", "#100 4.99 0>6=18", Twins.output(x));
    x.renderTicket(0);
    Check.same("54 replaces a longer text", "#0 0.0 0>1=3", Twins.output(x));
    Check.fails("55 nothing is left of the longer text", Twins.INDEX, () -> x.outputAt(12));
  }

  private static void promise55Indices() {
    // The text of rich is 10/3+6x2:0>1>2 with 14 signs.
    for (int index : new int[] {-1, 14, 15, Twins.LEAST, Twins.GREATEST}) {
      Twins.refused("55 index " + index + " of 14", Twins.INDEX, Twins::rich, x -> x.outputAt(index));
    }
    Twins.refused("55 empty text", Twins.INDEX, Twins::empty, x -> x.outputAt(0));
    Twins.refused("55 empty text, -1", Twins.INDEX, Twins::empty, x -> x.outputAt(-1));
    Twins.answers("55 the first sign", '1', Twins::rich, x -> x.outputAt(0));
    Twins.answers("55 the last sign", '2', Twins::rich, x -> x.outputAt(13));
    Twins.onlyLooks("55", Twins::rich, x -> x.outputAt(13));
  }

  private static void promise56Characters() {
    for (int code : new int[] {0, 10, 31, 127, 128, 255, 256 + 65, 65535}) {
      Twins.refused("56 character " + code, Twins.ARGUMENT, Twins::rich, x -> x.type((char) code));
      Twins.refused(
          "56 character " + code + ", full buffer", Twins.ARGUMENT, TextBoundsTest::fullBuffer,
          x -> x.type((char) code));
    }
    for (int code = 32; code <= 126; code++) {
      char typed = (char) code;
      Twins.answers("56 character " + code, 3, Twins::rich, x -> x.type(typed));
    }
  }

  private static void promise56SixtyCharacters() {
    RingTransit x = new RingTransit();
    for (int length = 1; length <= 60; length++) {
      Check.same("56 length " + length, length, x.type(length == 60 ? 'n' : (DRY_14 + "rai").charAt(length - 1)));
    }
    Check.fails("56 the character 61", Twins.STATE, () -> x.type(';'));
    Check.fails("56 the character 61, again", Twins.STATE, () -> x.type('a'));
    Check.same("57 the 60 characters are as typed", 15, x.runScript());
    Check.same("57 the last command of 15", true, x.isRaining());
    Check.same("56 empty afterwards", 1, x.type('d'));
    Twins.refused("56 full buffer", Twins.STATE, TextBoundsTest::fullBuffer, y -> y.type('a'));
  }

  private static void promise57BufferIsEmptyAfterwards() {
    Twins.answers("57 after a run", 1, x -> Twins.script(x, "dry"), x -> x.type('a'));
    Twins.answers("57 after a wrong form", 1, TextBoundsTest::ready, x -> x.type('a'));
    Twins.answers("57 after a failed command", 1, x -> {
      Twins.type(x, "cut 0");
      Check.fails("57 cut 0", Twins.STATE, x::runScript);
    }, x -> x.type('a'));
    Twins.answers("57 after an empty script", 1, x -> Check.answerOf(x::runScript), x -> x.type('a'));
  }

  private static void wrongAt(String text, int position) {
    RingTransit x = new RingTransit();
    Twins.type(x, text);
    Check.fails("57 " + text, Twins.ARGUMENT, x::runScript);
    Check.same("58 " + text, position, x.errorPosition());
    Check.fails("59 " + text, Twins.ELEMENT, x::failedCommand);
    Check.fails("60 " + text, Twins.STATE, x::undo);
  }

  /** The form is right: the script runs, or one of its commands fails. */
  private static void rightForm(String text) {
    RingTransit x = new RingTransit();
    Twins.type(x, text);
    Object answer = Check.answerOf(x::runScript);
    int commands = text.split(";").length;
    boolean isRun = answer.equals(commands) || answer.equals("throws " + Twins.STATE.getName());
    Check.same("57 has the form: " + text, true, isRun);
    Check.fails("58 has the form: " + text, Twins.ELEMENT, x::errorPosition);
  }

  /** Each part of each command: all beginnings of it end too early, and no other sign goes on. */
  private static void promise58EachPlaceOfEachCommand() {
    String[] commands = {
      "stop 9", "walk 0-9 999", "line 999/999 9x999", "add 9 0", "cut 0", "rain", "dry", "close 0",
      "open 9", "halt 0", "go 9", "sell 0 999 9>0", "refund 999", "wait 999",
    };
    for (String command : commands) {
      for (int index = 0; index <= command.length(); index++) {
        String begun = command.substring(0, index);
        boolean isWhole = index == command.length() || NUMBER_AT_THE_END.matcher(begun).matches();
        for (String before : new String[] {"", "dry;", "rain;cut 0;", "dry;".repeat(9)}) {
          if (isWhole) {
            rightForm(before + begun);
          } else {
            wrongAt(before + begun, before.length() + index);
          }
          wrongAt(before + begun + "~", before.length() + index);
          wrongAt(before + begun + "~dry", before.length() + index);
          if (!isWhole) {
            wrongAt(before + begun + ";dry", before.length() + index);
          }
        }
        if (isWhole) {
          wrongAt(begun + ";", index + 1);
          wrongAt(begun + ";;", index + 1);
          wrongAt(begun + "; ", index + 1);
          wrongAt(begun + " ", index);
          wrongAt(begun + "x", index);
        }
      }
    }
  }

  private static void promise58Numbers() {
    wrongAt("wait 1000", 8);
    wrongAt("wait 0000", 8);
    wrongAt("refund 1234", 10);
    wrongAt("walk 0-1 1234", 12);
    wrongAt("line 1234/0 1x1", 8);
    wrongAt("line 1/1234 1x1", 10);
    wrongAt("line 1/0 1x1234", 14);
    wrongAt("line 1/0 11x1", 10);
    wrongAt("sell 0 1234 0>1", 10);
    wrongAt("sell 00 1 0>1", 6);
    wrongAt("sell 0 1 00>1", 10);
    wrongAt("sell 0 1 0>11", 12);
    wrongAt("stop 10", 6);
    wrongAt("walk 00-1 1", 6);
    wrongAt("walk 0-11 1", 8);
    wrongAt("add 00 1", 5);
    wrongAt("add 0 11", 7);
    wrongAt("cut 11", 5);
    wrongAt("wait -1", 5);
    wrongAt("wait /", 5);
    wrongAt("wait :", 5);
    rightForm("wait 0");
    rightForm("wait 00");
    rightForm("wait 000");
    rightForm("wait 999");
  }

  private static void promise58Commons() {
    wrongAt("s", 1);
    wrongAt("sa", 1);
    wrongAt("st", 2);
    wrongAt("sel", 3);
    wrongAt("w", 1);
    wrongAt("wa", 2);
    wrongAt("wa ", 2);
    wrongAt("c", 1);
    wrongAt("cl", 2);
    wrongAt("co", 1);
    wrongAt("r", 1);
    wrongAt("ra", 2);
    wrongAt("rf", 1);
    wrongAt("re", 2);
    wrongAt("o", 1);
    wrongAt("D", 0);
    wrongAt("DRY", 0);
    wrongAt(" dry", 0);
    wrongAt(";", 0);
    wrongAt(";dry", 0);
    wrongAt("dry dry", 3);
    wrongAt("drydry", 3);
  }

  private static void promise58LeastAndGreatest() {
    wrongAt("", 0);
    wrongAt("x", 0);
    wrongAt(DRY_14 + "dry;", 60);
    wrongAt(DRY_14 + "dryx", 59);
    wrongAt(DRY_14 + "stop", 60);
    wrongAt("a".repeat(60), 1);
    wrongAt("x".repeat(60), 0);
    RingTransit x = new RingTransit();
    Check.fails("57 nothing typed", Twins.ARGUMENT, x::runScript);
    Check.same("58 nothing typed", 0, x.errorPosition());
  }

  private static void promise58LatestWrongScript() {
    Twins.refused("58 no script", Twins.ELEMENT, Twins::empty, RingTransit::errorPosition);
    Twins.refused("58 no wrong script", Twins.ELEMENT, x -> {
      Twins.script(x, "dry");
      Twins.type(x, "cut 0");
      Check.answerOf(x::runScript);
    }, RingTransit::errorPosition);
    RingTransit x = Twins.made(TextBoundsTest::ready);
    Check.same("58 the latest", 2, x.errorPosition());
    Twins.script(x, "dry");
    Check.same("58 after a right one", 2, x.errorPosition());
    Twins.type(x, "cut 9");
    Check.fails("57 cut 9", Twins.STATE, x::runScript);
    Check.same("58 after a failed one", 2, x.errorPosition());
    Check.fails("57 empty", Twins.ARGUMENT, x::runScript);
    Check.same("58 after an empty one", 0, x.errorPosition());
    Twins.onlyLooks("58", Twins::rich, RingTransit::errorPosition);
  }

  private static void promise57WrongFormChangesNothing() {
    String[] scripts = {"raxdry", "gotostop 1", "drx", "wa;rain"};
    for (String script : scripts) {
      Twins.refused(
          "57 wrong at 2: " + script, Twins.ARGUMENT, TextBoundsTest::ready,
          x -> Twins.script(x, script));
    }
    String[] later = {"wait 1;cl", "stop 5;st;dry", "cut 2;ope!", "close 3;w~", "refund 00!", "dry;rain;"};
    for (String script : later) {
      Twins.refused(
          "57 wrong at 9: " + script, Twins.ARGUMENT, TextBoundsTest::readyAt9,
          x -> Twins.script(x, script));
    }
  }

  private static void promise57FailedCommandChangesNothing() {
    String[] faults = {
      "walk 0-6 5", "walk 9-0 5", "walk 1-1 5", "walk 1-2 0", "walk 1-2 31", "walk 0-3 5", "walk 1-2 999",
      "line 0/0 1x1", "line 61/0 1x1", "line 1/60 1x1", "line 1/0 0x1", "line 1/0 1x0", "line 1/0 1x21",
      "line 999/0 1x1", "add 4 0", "add 3 6", "add 0 3", "add 2 4", "cut 4", "cut 3", "cut 0",
      "close 6", "open 9", "halt 4", "go 9", "sell 4 0 0>1", "sell 0 100 0>1", "sell 0 0 1>1",
      "sell 0 0 2>1", "sell 0 0 0>4", "sell 3 0 0>1", "sell 2 0 0>1", "sell 0 20 0>1", "refund 1",
      "refund 4", "refund 999", "wait 0", "wait 121", "wait 999",
    };
    for (String fault : faults) {
      Twins.refused(
          "57 " + fault, Twins.STATE, TextBoundsTest::ready, x -> Twins.script(x, "dry;" + fault));
      Twins.refused(
          "57 " + fault + ", and more", Twins.STATE, TextBoundsTest::ready,
          x -> Twins.script(x, "go 3;" + fault + ";stop 1;wait 1"));
      Twins.refused(
          "57 after a wait: " + fault, Twins.STATE, TextBoundsTest::ready,
          x -> Twins.script(x, "wait 120;" + fault));
    }
    Twins.refused("57 no line left", Twins.STATE, y -> {
      ready(y);
      y.addLine(1, 0, 1, 1);
    }, x -> Twins.script(x, "dry;line 1/0 1x1"));
    Twins.refused("57 no stop left", Twins.STATE, y -> {
      ready(y);
      Twins.stops(y, 4);
    }, x -> Twins.script(x, "dry;stop 0"));
    Twins.refused("57 the ring is full", Twins.STATE, y -> {
      ready(y);
      for (int stop = 0; stop < 6; stop++) {
        y.extendLine(3, stop);
      }
    }, x -> Twins.script(x, "stop 1;add 3 6"));
  }

  private static void promise57CommandsSeeTheOnesBefore() {
    RingTransit x = new RingTransit();
    Check.same("57 stops", 2, Twins.script(x, "stop 0;stop 9"));
    Check.same("57 a line", 3, Twins.script(x, "line 60/59 9x20;add 0 1;add 0 0"));
    Check.same("57 a sale and its refund", 3, Twins.script(x, "sell 0 99 0>2;refund 0;cut 0"));
    Check.same("46 refunded", 6, x.refundedCoins());
    Check.same("22 cut", 1, x.ringSize(0));
    Check.same("57 prices", 5, Twins.script(x, "add 0 0;rain;sell 0 0 0>1;dry;sell 0 0 0>1"));
    Check.same("44 in rain", 2, x.ticketPrice(1));
    Check.same("44 dry", 3, x.ticketPrice(2));
    Check.same("57 a wait uses both, one is cut", 2, Twins.script(x, "wait 120;cut 0"));
    Check.same("47 used", 2, x.usedTickets());
  }

  private static void promise57LeastAndGreatestArguments() {
    RingTransit x = Twins.made(y -> Twins.stops(y, 9));
    Check.same("57 stop 9", 1, Twins.script(x, "stop 9"));
    Check.same("18 stop 9", 9, x.transferMinutes(9));
    Check.same("57 walks", 2, Twins.script(x, "walk 0-9 30;walk 1-2 001"));
    Check.same("20 greatest", 30, x.walkMinutes(9, 0));
    Check.same("20 least", 1, x.walkMinutes(1, 2));
    Check.same("57 lines", 2, Twins.script(x, "line 1/0 1x1;line 60/59 9x20"));
    Check.same("53 least", "1/0+1x1:", line(x, 0));
    Check.same("53 greatest", "60/59+9x20:", line(x, 1));
    Check.same("57 add", 4, Twins.script(x, "add 0 9;add 0 0;add 1 0;add 1 9"));
    Check.same("57 sell", 2, Twins.script(x, "sell 0 0 0>1;sell 1 99 1>2"));
    Check.same("41 greatest", 99, x.ticketTrip(1));
    Check.same("57 wait", 2, Twins.script(x, "wait 1;wait 120"));
    Check.same("15", 121, x.minute());
    Check.same("57 closed and open", 3, Twins.script(x, "close 0;close 9;open 0"));
    Check.same("19 open", false, x.isClosed(0));
    Check.same("19 closed", true, x.isClosed(9));
    Check.same("57 halt and go", 3, Twins.script(x, "halt 0;halt 1;go 0"));
    Check.same("26 go", true, x.runs(0));
    Check.same("26 halt", false, x.runs(1));
  }

  private static void promise59Indices() {
    for (int failing = 0; failing < 14; failing++) {
      RingTransit x = new RingTransit();
      Twins.type(x, "dry;".repeat(failing) + "go 9");
      Check.fails("57 fails at " + failing, Twins.STATE, x::runScript);
      Check.same("59 index " + failing, failing, x.failedCommand());
      Check.fails("58 has the form", Twins.ELEMENT, x::errorPosition);
    }
    RingTransit y = new RingTransit();
    Twins.type(y, DRY_14 + "go 9");
    Check.fails("57 the last of 15 fails", Twins.STATE, y::runScript);
    Check.same("59 the last of 15", 14, y.failedCommand());
    RingTransit z = new RingTransit();
    Twins.type(z, "go 9;cut 9;wait 0");
    Check.fails("57 all fail", Twins.STATE, z::runScript);
    Check.same("59 the first that fails", 0, z.failedCommand());
  }

  private static void promise59LatestFailedScript() {
    Twins.refused("59 no script", Twins.ELEMENT, Twins::empty, RingTransit::failedCommand);
    Twins.refused("59 no failed script", Twins.ELEMENT, x -> {
      Twins.script(x, "dry");
      Twins.type(x, "cut");
      Check.answerOf(x::runScript);
    }, RingTransit::failedCommand);
    RingTransit x = Twins.made(TextBoundsTest::ready);
    Check.same("59 the latest", 1, x.failedCommand());
    Twins.script(x, "dry");
    Check.same("59 after a right one", 1, x.failedCommand());
    Check.fails("57 empty", Twins.ARGUMENT, x::runScript);
    Check.same("59 after a wrong one", 1, x.failedCommand());
    Twins.type(x, "dry;dry;cut 9");
    Check.fails("57 cut 9", Twins.STATE, x::runScript);
    Check.same("59 after a failed one", 2, x.failedCommand());
    Twins.onlyLooks("59", Twins::rich, RingTransit::failedCommand);
  }

  private static void promise57Answers() {
    for (int commands = 1; commands <= 15; commands++) {
      String text = "dry;".repeat(commands - 1) + "dry";
      Twins.answers("57 commands", commands, Twins::empty, x -> Twins.script(x, text));
    }
    Twins.answers("57 sixty characters", 15, Twins::empty, x -> Twins.script(x, DRY_14 + "rain"));
    Twins.answers("57 one command", 1, Twins::empty, x -> Twins.script(x, "line 001/000 1x001"));
  }

  public static void main(String[] args) {
    promise53Lines();
    promise53LeastAndGreatest();
    promise54LeastAndGreatest();
    promise55Indices();
    promise56Characters();
    promise56SixtyCharacters();
    promise57BufferIsEmptyAfterwards();
    promise58EachPlaceOfEachCommand();
    promise58Numbers();
    promise58Commons();
    promise58LeastAndGreatest();
    promise58LatestWrongScript();
    promise57WrongFormChangesNothing();
    promise57FailedCommandChangesNothing();
    promise57CommandsSeeTheOnesBefore();
    promise57LeastAndGreatestArguments();
    promise59Indices();
    promise59LatestFailedScript();
    promise57Answers();
    Check.end("TextBoundsTest");
  }
}
