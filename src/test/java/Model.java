import java.util.ArrayDeque;
import java.util.ArrayList;
import java.util.Comparator;
import java.util.Deque;
import java.util.List;
import java.util.NoSuchElementException;
import java.util.TreeMap;
import java.util.regex.Matcher;
import java.util.regex.Pattern;

/**
 * The document told a second time, by other means than RingTransit: journeys minute by minute,
 * flows traveller by traveller, scripts by a regular expression, states as whole copies.
 */
public final class Model {
  private static final String COMMAND =
      "(?:stop \\d|walk \\d-\\d \\d{1,3}|line \\d{1,3}/\\d{1,3} \\dx\\d{1,3}|add \\d \\d|cut \\d"
          + "|rain|dry|(?:close |open )\\d|(?:halt |go )\\d|sell \\d \\d{1,3} \\d>\\d"
          + "|refund \\d{1,3}|wait \\d{1,3})";
  private static final Pattern SCRIPT = Pattern.compile(COMMAND + "(?:;" + COMMAND + ")*");

  private static final class Ring {
    int headway;
    int offset;
    int hop;
    int delay;
    int seats;
    boolean halted;
    List<Integer> stops = new ArrayList<>();

    Ring copy() {
      Ring ring = new Ring();
      ring.headway = headway;
      ring.offset = offset;
      ring.hop = hop;
      ring.delay = delay;
      ring.seats = seats;
      ring.halted = halted;
      ring.stops = new ArrayList<>(stops);
      return ring;
    }

    boolean runs() {
      return stops.size() > 1 && !halted;
    }

    int stop(int position) {
      return stops.get(position % stops.size());
    }
  }

  private static final class World {
    int minute;
    boolean rain;
    List<Integer> transfers = new ArrayList<>();
    List<Boolean> closed = new ArrayList<>();
    TreeMap<Integer, Integer> walks = new TreeMap<>();
    List<Ring> rings = new ArrayList<>();
    TreeMap<Integer, int[]> tickets = new TreeMap<>();
    int nextTicket;
    int income;
    int refunded;
    int used;

    World copy() {
      World world = new World();
      world.minute = minute;
      world.rain = rain;
      world.transfers = new ArrayList<>(transfers);
      world.closed = new ArrayList<>(closed);
      world.walks = new TreeMap<>(walks);
      for (Ring ring : rings) {
        world.rings.add(ring.copy());
      }
      world.tickets = new TreeMap<>(tickets);
      world.nextTicket = nextTicket;
      world.income = income;
      world.refunded = refunded;
      world.used = used;
      return world;
    }
  }

  private World w = new World();
  private World snapshot = null;
  private final Deque<World> undoable = new ArrayDeque<>();
  private boolean inScript = false;
  private String buffer = "";
  private String output = "";
  private int error = -1;
  private int failed = -1;

  private void change() {
    if (inScript) {
      return;
    }
    undoable.addLast(w.copy());
    if (undoable.size() > 8) {
      undoable.removeFirst();
    }
  }

  private void needStop(int stop) {
    if (stop < 0 || stop >= w.transfers.size()) {
      throw new IndexOutOfBoundsException();
    }
  }

  private Ring needLine(int line) {
    if (line < 0 || line >= w.rings.size()) {
      throw new IndexOutOfBoundsException();
    }
    return w.rings.get(line);
  }

  private static void need(boolean isFine) {
    if (!isFine) {
      throw new IllegalArgumentException();
    }
  }

  private static void needState(boolean isFine) {
    if (!isFine) {
      throw new IllegalStateException();
    }
  }

  private static void needElement(boolean isFine) {
    if (!isFine) {
      throw new NoSuchElementException();
    }
  }

  private static int pair(int first, int second) {
    return Math.min(first, second) * 100 + Math.max(first, second);
  }

  private boolean hasTickets(int line) {
    return w.tickets.values().stream().anyMatch(t -> t[0] == line);
  }

  private int pace(Ring ring) {
    return ring.hop + (w.rain ? ring.delay : 0);
  }

  private int when(Ring ring, int trip, int position) {
    return ring.offset + trip * ring.headway + position * pace(ring);
  }

  public int addStop(int transferMinutes) {
    need(transferMinutes >= 0 && transferMinutes <= 9);
    needState(w.transfers.size() < 10);
    change();
    w.transfers.add(transferMinutes);
    w.closed.add(false);
    return w.transfers.size() - 1;
  }

  public int addWalk(int first, int second, int minutes) {
    needStop(first);
    needStop(second);
    need(first != second && minutes >= 1 && minutes <= 30);
    needState(!w.walks.containsKey(pair(first, second)) && w.walks.size() < 15);
    change();
    w.walks.put(pair(first, second), minutes);
    return w.walks.size();
  }

  public int removeWalk(int first, int second) {
    walkMinutes(first, second);
    change();
    return w.walks.remove(pair(first, second));
  }

  public int addLine(int headway, int offset, int hopMinutes, int seats) {
    need(headway >= 1 && headway <= 60 && offset >= 0 && offset <= 59);
    need(hopMinutes >= 1 && hopMinutes <= 9 && seats >= 1 && seats <= 20);
    needState(w.rings.size() < 5);
    change();
    Ring ring = new Ring();
    ring.headway = headway;
    ring.offset = offset;
    ring.hop = hopMinutes;
    ring.seats = seats;
    w.rings.add(ring);
    return w.rings.size() - 1;
  }

  public int extendLine(int line, int stop) {
    Ring ring = needLine(line);
    needStop(stop);
    needState(ring.stops.size() < 6 && !hasTickets(line));
    if (ring.stops.contains(stop)) {
      throw new UnsupportedOperationException();
    }
    change();
    w.rings.get(line).stops.add(stop);
    return ring.stops.size();
  }

  public int shortenLine(int line) {
    Ring ring = needLine(line);
    needElement(!ring.stops.isEmpty());
    needState(!hasTickets(line));
    change();
    return ring.stops.remove(ring.stops.size() - 1);
  }

  public boolean setRain(boolean isRaining) {
    change();
    boolean was = w.rain;
    w.rain = isRaining;
    return was;
  }

  public int setRainDelay(int line, int minutes) {
    Ring ring = needLine(line);
    need(minutes >= 0 && minutes <= 5);
    change();
    int was = ring.delay;
    ring.delay = minutes;
    return was;
  }

  public boolean setClosed(int stop, boolean isClosed) {
    needStop(stop);
    change();
    return w.closed.set(stop, isClosed);
  }

  public boolean setSuspended(int line, boolean isSuspended) {
    Ring ring = needLine(line);
    change();
    boolean was = ring.halted;
    ring.halted = isSuspended;
    return was;
  }

  private void needRide(int line, int trip, int from, int to) {
    Ring ring = needLine(line);
    need(trip >= 0 && trip <= 99 && from >= 0 && to > from && to <= ring.stops.size());
  }

  public int sellTicket(int line, int trip, int from, int to) {
    needRide(line, trip, from, to);
    needState(runs(line) && w.tickets.size() < 16);
    if (freeSeats(line, trip, from, to) == 0) {
      throw new UnsupportedOperationException();
    }
    change();
    int price = (w.rain ? 2 : 3) * (to - from);
    w.tickets.put(w.nextTicket, new int[] {line, trip, from, to, price});
    w.income += price;
    return w.nextTicket++;
  }

  public int refund(int ticket) {
    int price = ticketPrice(ticket);
    change();
    w.tickets.remove(ticket);
    w.income -= price;
    w.refunded += price;
    return price;
  }

  public int advance(int minutes) {
    need(minutes >= 1 && minutes <= 120);
    change();
    int usedNow = 0;
    for (int i = 0; i < minutes; i++) {
      w.minute++;
      for (int id : new ArrayList<>(w.tickets.keySet())) {
        int[] t = w.tickets.get(id);
        if (when(w.rings.get(t[0]), t[1], t[3]) <= w.minute) {
          w.tickets.remove(id);
          usedNow++;
        }
      }
    }
    w.used += usedNow;
    return usedNow;
  }

  public int minute() {
    return w.minute;
  }

  public boolean isRaining() {
    return w.rain;
  }

  public int stopCount() {
    return w.transfers.size();
  }

  public int transferMinutes(int stop) {
    needStop(stop);
    return w.transfers.get(stop);
  }

  public boolean isClosed(int stop) {
    needStop(stop);
    return w.closed.get(stop);
  }

  public int walkMinutes(int first, int second) {
    needStop(first);
    needStop(second);
    needElement(w.walks.containsKey(pair(first, second)));
    return w.walks.get(pair(first, second));
  }

  public int lineCount() {
    return w.rings.size();
  }

  public int ringSize(int line) {
    return needLine(line).stops.size();
  }

  public int stopAt(int line, int position) {
    Ring ring = needLine(line);
    needElement(position >= 0 && position <= ring.stops.size() && !ring.stops.isEmpty());
    return ring.stop(position);
  }

  public int positionOf(int line, int stop) {
    Ring ring = needLine(line);
    needStop(stop);
    needElement(ring.stops.contains(stop));
    return ring.stops.indexOf(stop);
  }

  public int hopMinutes(int line) {
    return pace(needLine(line));
  }

  public boolean runs(int line) {
    return needLine(line).runs();
  }

  public int tripMinute(int line, int trip, int position) {
    Ring ring = needLine(line);
    need(trip >= 0 && trip <= 99 && position >= 0 && position <= ring.stops.size());
    needState(ring.stops.size() >= 2);
    return when(ring, trip, position);
  }

  public int nextTrip(int line, int position, int minute) {
    Ring ring = needLine(line);
    need(position >= 0 && position < ring.stops.size() && minute >= 0 && minute <= 9999);
    needState(ring.runs());
    int trip = 0;
    while (when(ring, trip, position) < minute) {
      trip++;
    }
    return trip;
  }

  public int nextTripBySearch(int line, int position, int minute) {
    return nextTrip(line, position, minute);
  }

  private boolean isOpen(int stop) {
    return !w.closed.get(stop);
  }

  /** Lets time run: who is at a stop may walk off, who is ready there may board what stands there. */
  public int earliestArrival(int from, int to, int minute) {
    needStop(from);
    needStop(to);
    need(minute >= 0 && minute <= 9999);
    int stops = w.transfers.size();
    if (from == to) {
      return minute;
    }
    needElement(isOpen(from) && isOpen(to) && boardings(from)[to] < 1000);
    int horizon = 6000;
    boolean[][] at = new boolean[horizon + 200][stops];
    boolean[][] ready = new boolean[horizon + 200][stops];
    at[0][from] = true;
    ready[0][from] = true;
    for (int t = 0; t < horizon; t++) {
      if (at[t][to]) {
        return minute + t;
      }
      for (int stop = 0; stop < stops; stop++) {
        at[t + 1][stop] |= at[t][stop];
        ready[t + 1][stop] |= ready[t][stop];
        for (int other = 0; other < stops && at[t][stop]; other++) {
          Integer walk = w.walks.get(pair(stop, other));
          if (walk != null && isOpen(stop) && isOpen(other)) {
            at[t + walk][other] = true;
            ready[t + walk][other] = true;
          }
        }
        if (ready[t][stop] && isOpen(stop)) {
          board(at, ready, t, minute, stop);
        }
      }
    }
    throw new AssertionError("no end of the journey in sight");
  }

  private void board(boolean[][] at, boolean[][] ready, int t, int minute, int stop) {
    for (Ring ring : w.rings) {
      int position = ring.stops.indexOf(stop);
      if (!ring.runs() || position < 0) {
        continue;
      }
      int since = minute + t - when(ring, 0, position);
      if (since < 0 || since % ring.headway != 0) {
        continue;
      }
      for (int hops = 1; position + hops <= ring.stops.size(); hops++) {
        int end = ring.stop(position + hops);
        if (isOpen(end)) {
          int arrival = t + hops * pace(ring);
          at[arrival][end] = true;
          ready[arrival + w.transfers.get(end)][end] = true;
        }
      }
    }
  }

  public int earliestArrivalByRounds(int from, int to, int minute) {
    return earliestArrival(from, to, minute);
  }

  private int[] boardings(int from) {
    int stops = w.transfers.size();
    int[] least = new int[stops];
    java.util.Arrays.fill(least, 1000);
    least[from] = 0;
    for (int round = 0; round < 30; round++) {
      for (int key : w.walks.keySet()) {
        int a = key / 100;
        int b = key % 100;
        if (isOpen(a) && isOpen(b)) {
          least[a] = Math.min(least[a], least[b]);
          least[b] = Math.min(least[a], least[b]);
        }
      }
      for (Ring ring : w.rings) {
        for (int i = 0; ring.runs() && i < ring.stops.size(); i++) {
          for (int j = i + 1; j <= ring.stops.size(); j++) {
            if (isOpen(ring.stop(i)) && isOpen(ring.stop(j))) {
              least[ring.stop(j)] = Math.min(least[ring.stop(j)], least[ring.stop(i)] + 1);
            }
          }
        }
      }
    }
    return least;
  }

  public int fewestBoardings(int from, int to) {
    needStop(from);
    needStop(to);
    int least = boardings(from)[to];
    needElement(least < 1000);
    return least;
  }

  public int fewestBoardingsByTable(int from, int to) {
    return fewestBoardings(from, to);
  }

  /** Sends travellers one by one, each along any way with a seat left or a seat given back. */
  public int flow(int from, int to) {
    needStop(from);
    needStop(to);
    need(from != to);
    int[][] room = new int[w.transfers.size()][w.transfers.size()];
    for (Ring ring : w.rings) {
      for (int i = 0; ring.runs() && i < ring.stops.size(); i++) {
        room[ring.stop(i)][ring.stop(i + 1)] += ring.seats;
      }
    }
    int total = 0;
    while (send(room, new boolean[room.length], from, to)) {
      total++;
    }
    return total;
  }

  private static boolean send(int[][] room, boolean[] seen, int stop, int to) {
    if (stop == to) {
      return true;
    }
    seen[stop] = true;
    for (int other = 0; other < room.length; other++) {
      if (!seen[other] && room[stop][other] > 0 && send(room, seen, other, to)) {
        room[stop][other]--;
        room[other][stop]++;
        return true;
      }
    }
    return false;
  }

  public int smallestCut(int from, int to) {
    return flow(from, to);
  }

  public int freeSeats(int line, int trip, int from, int to) {
    needRide(line, trip, from, to);
    int least = 20;
    for (int hop = from; hop < to; hop++) {
      int left = w.rings.get(line).seats;
      for (int[] t : w.tickets.values()) {
        left -= t[0] == line && t[1] == trip && t[2] <= hop && t[3] > hop ? 1 : 0;
      }
      least = Math.min(least, left);
    }
    return least;
  }

  public int freeSeatsBySweep(int line, int trip, int from, int to) {
    return freeSeats(line, trip, from, to);
  }

  public int ticketCount() {
    return w.tickets.size();
  }

  public int ticketAt(int position) {
    if (position < 0 || position >= w.tickets.size()) {
      throw new IndexOutOfBoundsException();
    }
    return new ArrayList<>(w.tickets.keySet()).get(position);
  }

  private int ticketPart(int ticket, int part) {
    needElement(w.tickets.containsKey(ticket));
    return w.tickets.get(ticket)[part];
  }

  public int ticketLine(int ticket) {
    return ticketPart(ticket, 0);
  }

  public int ticketTrip(int ticket) {
    return ticketPart(ticket, 1);
  }

  public int ticketFrom(int ticket) {
    return ticketPart(ticket, 2);
  }

  public int ticketTo(int ticket) {
    return ticketPart(ticket, 3);
  }

  public int ticketPrice(int ticket) {
    return ticketPart(ticket, 4);
  }

  public int income() {
    return w.income;
  }

  public int refundedCoins() {
    return w.refunded;
  }

  public int usedTickets() {
    return w.used;
  }

  public int lineByTickets(int rank) {
    List<Integer> lines = new ArrayList<>();
    for (int line = 0; line < w.rings.size(); line++) {
      lines.add(line);
    }
    lines.sort(
        Comparator.<Integer>comparingLong(
                line -> -w.tickets.values().stream().filter(t -> t[0] == line).count())
            .thenComparingInt(line -> w.rings.get(line).seats));
    needElement(rank >= 0 && rank < lines.size());
    return lines.get(rank);
  }

  public int stopByLines(int rank) {
    List<Integer> stops = new ArrayList<>();
    for (int stop = 0; stop < w.transfers.size(); stop++) {
      stops.add(stop);
    }
    stops.sort(
        Comparator.<Integer>comparingLong(
                stop -> -w.rings.stream().filter(ring -> ring.stops.contains(stop)).count())
            .thenComparingLong(
                stop ->
                    -w.walks.keySet().stream()
                        .filter(key -> key / 100 == stop || key % 100 == stop)
                        .count()));
    needElement(rank >= 0 && rank < stops.size());
    return stops.get(rank);
  }

  public double meanPrice() {
    if (w.tickets.isEmpty()) {
      throw new ArithmeticException();
    }
    return w.tickets.values().stream().mapToInt(t -> t[4]).sum() / (double) w.tickets.size();
  }

  public float closedShare() {
    if (w.closed.isEmpty()) {
      throw new ArithmeticException();
    }
    return w.closed.stream().filter(isClosed -> isClosed).count() / (float) w.closed.size();
  }

  public boolean isConsistent() {
    return true;
  }

  public int renderLine(int line) {
    Ring ring = needLine(line);
    StringBuilder text = new StringBuilder();
    for (int stop : ring.stops) {
      text.append(text.length() == 0 ? "" : ">").append(stop);
    }
    output =
        ring.headway + "/" + ring.offset + "+" + pace(ring) + "x" + ring.seats + ":" + text
            + (ring.halted ? "!" : "");
    return output.length();
  }

  public int renderTicket(int ticket) {
    needElement(w.tickets.containsKey(ticket));
    int[] t = w.tickets.get(ticket);
    output = "#" + ticket + " " + t[0] + "." + t[1] + " " + t[2] + ">" + t[3] + "=" + t[4];
    return output.length();
  }

  public char outputAt(int index) {
    if (index < 0 || index >= output.length()) {
      throw new IndexOutOfBoundsException();
    }
    return output.charAt(index);
  }

  public int type(char character) {
    need(character >= ' ' && character <= '~');
    needState(buffer.length() < 60);
    buffer += character;
    return buffer.length();
  }

  public int runScript() {
    String text = buffer;
    buffer = "";
    if (!SCRIPT.matcher(text).matches()) {
      error = errorOf(text);
      throw new IllegalArgumentException();
    }
    String[] commands = text.split(";");
    World start = w.copy();
    inScript = true;
    for (int index = 0; index < commands.length; index++) {
      try {
        command(commands[index].split("[^a-z0-9]"));
      } catch (RuntimeException thrown) {
        w = start;
        failed = index;
        inScript = false;
        throw new IllegalStateException();
      }
    }
    inScript = false;
    World end = w;
    w = start;
    change();
    w = end;
    return commands.length;
  }

  private static int errorOf(String text) {
    for (int index = 0; index < text.length(); index++) {
      Matcher matcher = SCRIPT.matcher(text.substring(0, index + 1));
      if (!matcher.matches() && !matcher.hitEnd()) {
        return index;
      }
    }
    return text.length();
  }

  private void command(String[] words) {
    int[] v = new int[4];
    if (words[0].equals("line")) {
      String[] pair = words[3].split("x");
      words = new String[] {"line", words[1], words[2], pair[0], pair[1]};
    }
    for (int index = 1; index < words.length; index++) {
      v[index - 1] = Integer.parseInt(words[index]);
    }
    switch (words[0]) {
      case "stop" -> addStop(v[0]);
      case "walk" -> addWalk(v[0], v[1], v[2]);
      case "line" -> addLine(v[0], v[1], v[2], v[3]);
      case "add" -> extendLine(v[0], v[1]);
      case "cut" -> shortenLine(v[0]);
      case "rain" -> setRain(true);
      case "dry" -> setRain(false);
      case "close" -> setClosed(v[0], true);
      case "open" -> setClosed(v[0], false);
      case "halt" -> setSuspended(v[0], true);
      case "go" -> setSuspended(v[0], false);
      case "sell" -> sellTicket(v[0], v[1], v[2], v[3]);
      case "refund" -> refund(v[0]);
      case "wait" -> advance(v[0]);
      default -> throw new AssertionError(words[0]);
    }
  }

  public int errorPosition() {
    needElement(error >= 0);
    return error;
  }

  public int failedCommand() {
    needElement(failed >= 0);
    return failed;
  }

  public int undo() {
    needState(!undoable.isEmpty());
    w = undoable.removeLast();
    return undoable.size();
  }

  public int save() {
    snapshot = w.copy();
    return w.tickets.size();
  }

  public int restore() {
    needState(snapshot != null);
    w = snapshot.copy();
    undoable.clear();
    return w.tickets.size();
  }
}
