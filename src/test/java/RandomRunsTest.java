import java.lang.reflect.InvocationTargetException;
import java.lang.reflect.Method;
import java.util.ArrayList;
import java.util.Comparator;
import java.util.List;

/** Long runs of calls, the same ones in every session, answered by RingTransit and by Model alike. */
public final class RandomRunsTest {
  private static final int RUNS = 250;
  private static final int CALLS = 512;
  private static final String[] SCRIPTS = {
    "stop 3", "walk 0-1 5", "walk 1-2 12", "line 10/0 2x3", "line 7/3 1x1", "add 0 0", "add 0 1",
    "add 1 2", "cut 0", "rain", "dry", "close 1", "open 1", "halt 0", "go 0", "sell 0 1 0>2",
    "sell 0 0 1>2", "refund 0", "wait 9", "wait 120", "stop", "walk 0-", "line 1234/", "wait 0012",
    "close", "refunf 1", "sell 0 1 0-2", "raindry", ""
  };

  private long seed;
  private final List<String> told = new ArrayList<>();
  private RingTransit real;
  private Model model;

  private RandomRunsTest(long seed) {
    this.seed = seed * 7919 + 17;
  }

  private int below(int bound) {
    seed = seed * 6364136223846793005L + 1442695040888963407L;
    return (int) ((seed >>> 33) % bound);
  }

  /** Mostly a number that can do, now and then one from beyond the edges. */
  private int number(int low, int high) {
    int choice = below(40);
    if (choice == 0) {
      return low - 1;
    }
    if (choice == 1) {
      return high + 1;
    }
    if (choice == 2) {
      int[] odd = {Integer.MIN_VALUE, Integer.MAX_VALUE, -1, 1 << 30, 65536, 10000};
      return odd[below(odd.length)];
    }
    return low + below(high - low + 1);
  }

  private int stop() {
    return number(0, Math.max(0, model.stopCount() - 1));
  }

  private int line() {
    return number(0, Math.max(0, model.lineCount() - 1));
  }

  private int ticket() {
    if (model.ticketCount() > 0 && below(4) > 0) {
      return model.ticketAt(below(model.ticketCount()));
    }
    return number(0, 20);
  }

  private int minutes() {
    return below(3) == 0 ? number(9000, 9999) : number(0, 200);
  }

  private Object[] arguments(String name) {
    switch (name) {
      case "addStop":
        return new Object[] {number(0, 9)};
      case "addWalk":
        return new Object[] {stop(), stop(), number(1, 30)};
      case "removeWalk":
      case "walkMinutes":
      case "fewestBoardings":
      case "fewestBoardingsByTable":
      case "flow":
      case "smallestCut":
        return new Object[] {stop(), stop()};
      case "addLine":
        return new Object[] {number(1, 60), number(0, 59), number(1, 9), number(1, below(2) * 16 + 4)};
      case "extendLine":
      case "positionOf":
        return new Object[] {line(), stop()};
      case "setRain":
        return new Object[] {below(2) == 0};
      case "setRainDelay":
        return new Object[] {line(), number(0, 5)};
      case "setClosed":
        return new Object[] {stop(), below(3) == 0};
      case "setSuspended":
        return new Object[] {line(), below(4) == 0};
      case "sellTicket":
      case "freeSeats":
      case "freeSeatsBySweep":
        int on = line();
        int size = on >= 0 && on < model.lineCount() ? model.ringSize(on) : 3;
        int from = number(0, Math.max(0, size - 1));
        int trip = below(5) == 0 ? number(0, 99) : model.minute() / 40 + below(3);
        int to = below(9) == 0 || from < 0 || from >= size ? number(1, 6) : from + 1 + below(size - from);
        return new Object[] {on, trip, from, to};
      case "advance":
        return new Object[] {number(1, below(4) == 0 ? 120 : 9)};
      case "stopAt":
        return new Object[] {line(), number(0, 6)};
      case "tripMinute":
        return new Object[] {line(), number(0, 99), number(0, 5)};
      case "nextTrip":
      case "nextTripBySearch":
        return new Object[] {line(), number(0, 5), minutes()};
      case "earliestArrival":
      case "earliestArrivalByRounds":
        return new Object[] {stop(), stop(), minutes()};
      case "transferMinutes":
      case "isClosed":
        return new Object[] {stop()};
      case "refund":
      case "renderTicket":
        return new Object[] {ticket()};
      case "ticketAt":
      case "lineByTickets":
      case "stopByLines":
        return new Object[] {number(0, 9)};
      case "outputAt":
        return new Object[] {number(0, 20)};
      case "type":
        return new Object[] {(char) (below(9) == 0 ? below(300) : 32 + below(95))};
      default:
        return name.startsWith("ticket") ? new Object[] {ticket()} : new Object[] {line()};
    }
  }

  private static Object answer(Method method, Object object, Object[] arguments) {
    try {
      return method.invoke(object, arguments);
    } catch (InvocationTargetException thrown) {
      if (thrown.getCause() instanceof Error) {
        throw new IllegalStateException(thrown.getCause());
      }
      return "throws " + thrown.getCause().getClass().getName();
    } catch (IllegalAccessException thrown) {
      throw new IllegalStateException(thrown);
    }
  }

  private boolean agree(String name, Class<?>[] types, Object[] arguments) throws Exception {
    Object want = answer(Model.class.getMethod(name, types), model, arguments);
    Object got = answer(RingTransit.class.getMethod(name, types), real, arguments);
    StringBuilder call = new StringBuilder(name).append('(');
    for (Object argument : arguments) {
      call.append(call.charAt(call.length() - 1) == '(' ? "" : ", ").append(argument);
    }
    told.add(call.append(") ").append(got).toString());
    Check.same(name, want, got);
    if (!want.equals(got)) {
      System.out.println(String.join("\n", told));
    }
    return want.equals(got);
  }

  private boolean script() throws Exception {
    StringBuilder text = new StringBuilder();
    int commands = 1 + below(5);
    for (int index = 0; index < commands; index++) {
      text.append(index == 0 ? "" : ";").append(SCRIPTS[below(SCRIPTS.length - below(2) * 9)]);
    }
    if (below(6) == 0 && text.length() > 0) {
      text.setCharAt(below(text.length()), (char) (32 + below(95)));
    }
    for (int index = 0; index < text.length(); index++) {
      if (!agree("type", new Class<?>[] {char.class}, new Object[] {text.charAt(index)})) {
        return false;
      }
    }
    for (String name : new String[] {"runScript", "errorPosition", "failedCommand"}) {
      if (!agree(name, new Class<?>[0], new Object[0])) {
        return false;
      }
    }
    return true;
  }

  /** Calls everything that only looks, so that a wrong state shows at once. */
  private boolean look(List<Method> methods) throws Exception {
    for (Method method : methods) {
      if (method.getParameterCount() == 0 && !isChange(method.getName())) {
        if (!agree(method.getName(), method.getParameterTypes(), new Object[0])) {
          return false;
        }
      }
    }
    for (int from = 0; from < model.stopCount(); from++) {
      for (int to = 0; to < model.stopCount(); to++) {
        Object[] pair = {from, to};
        Object[] journey = {from, to, model.minute() % 10000};
        if (!agree("earliestArrival", of(3), journey)
            || !agree("earliestArrivalByRounds", of(3), journey)
            || !agree("fewestBoardings", of(2), pair)
            || !agree("fewestBoardingsByTable", of(2), pair)
            || !agree("flow", of(2), pair)
            || !agree("smallestCut", of(2), pair)) {
          return false;
        }
      }
    }
    return true;
  }

  private static Class<?>[] of(int count) {
    Class<?>[] types = new Class<?>[count];
    java.util.Arrays.fill(types, int.class);
    return types;
  }

  private static boolean isChange(String name) {
    return name.equals("undo") || name.equals("save") || name.equals("restore")
        || name.equals("runScript");
  }

  /** Whether a call that would wear the network down is left out this time. */
  private boolean isSpared(String name) {
    return name.equals("restore") && below(5) != 0
        || name.equals("undo") && below(3) != 0
        || name.equals("shortenLine") && below(4) != 0
        || name.equals("removeWalk") && below(3) != 0;
  }

  /** Makes a network with whole rings, so that rides, flows and tickets have something to go on. */
  private boolean build() throws Exception {
    boolean isFine = true;
    for (int stops = 2 + below(9); isFine && stops > 0; stops--) {
      isFine = agree("addStop", of(1), new Object[] {below(10)});
    }
    for (int lines = 1 + below(5); isFine && lines > 0; lines--) {
      Object[] line = {1 + below(30), below(60), 1 + below(9), 1 + below(below(2) * 18 + 2)};
      isFine = agree("addLine", of(4), line);
      for (int size = below(9); isFine && size > 0; size--) {
        isFine = agree("extendLine", of(2), new Object[] {model.lineCount() - 1, stop()});
      }
    }
    for (int walks = below(9); isFine && walks > 0; walks--) {
      isFine = agree("addWalk", of(3), new Object[] {stop(), stop(), number(1, 30)});
    }
    return isFine;
  }

  /** Sells many tickets at once, so that seats and tickets run out, and looks at all of them. */
  private boolean crowd() throws Exception {
    for (int sale = 0; sale < 14; sale++) {
      if (!agree("sellTicket", of(4), arguments("sellTicket"))) {
        return false;
      }
    }
    for (int line = 0; line < model.lineCount(); line++) {
      for (int trip = 0; trip < 3 && model.ringSize(line) > 0; trip++) {
        for (int to = 1; to <= model.ringSize(line); to++) {
          Object[] ride = {line, trip, below(to), to};
          if (!agree("freeSeats", of(4), ride) || !agree("freeSeatsBySweep", of(4), ride)) {
            return false;
          }
        }
      }
    }
    for (int place = 0; place < model.ticketCount(); place++) {
      if (!agree("ticketAt", of(1), new Object[] {place})) {
        return false;
      }
    }
    return true;
  }

  private boolean run(List<Method> methods, List<Method> growing) throws Exception {
    real = new RingTransit();
    model = new Model();
    int start = below(60);
    if (below(3) > 0 && !build()) {
      return false;
    }
    for (int call = 0; call < CALLS; call++) {
      List<Method> from = call < start || below(4) == 0 ? growing : methods;
      Method method = from.get(below(from.size()));
      if (isSpared(method.getName())) {
        continue;
      }
      if (below(25) == 0) {
        if (!script()) {
          return false;
        }
        continue;
      }
      if (below(100) == 0 && !crowd()) {
        return false;
      }
      Object[] arguments =
          method.getParameterCount() == 0 ? new Object[0] : arguments(method.getName());
      int times = method.getName().equals("undo") ? 1 + below(10) : 1;
      for (int time = 0; time < times; time++) {
        if (!agree(method.getName(), method.getParameterTypes(), arguments)) {
          return false;
        }
      }
      if (below(150) == 0 && !look(methods)) {
        return false;
      }
    }
    return look(methods);
  }

  public static void main(String[] args) throws Exception {
    List<Method> methods = new ArrayList<>(List.of(RingTransit.class.getDeclaredMethods()));
    methods.removeIf(method -> !java.lang.reflect.Modifier.isPublic(method.getModifiers()));
    methods.sort(Comparator.comparing(Method::getName));
    List<Method> growing = new ArrayList<>(methods);
    growing.removeIf(
        method -> !List.of("addStop", "addWalk", "addLine", "extendLine", "sellTicket", "setRain",
            "setRainDelay", "advance", "refund").contains(method.getName()));
    int runs = args.length > 0 ? Integer.parseInt(args[0]) : RUNS;
    for (int run = 0; run < runs; run++) {
      if (!new RandomRunsTest(run).run(methods, growing)) {
        break;
      }
    }
    Check.end("RandomRunsTest");
  }
}
