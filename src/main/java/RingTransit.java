import java.util.Arrays;
import java.util.NoSuchElementException;

/** A transit network of rings: lines, walks, rain, closures, tickets, scripts, undo and a snapshot. */
public final class RingTransit {
  private static final int MOST_STOPS = 10;
  private static final int MOST_WALKS = 15;
  private static final int MOST_LINES = 5;
  private static final int MOST_RING = 6;
  private static final int MOST_HOPS = 30;
  private static final int MOST_TICKETS = 16;
  private static final int MOST_CHANGES = 8;
  private static final int MOST_SIGNS = 60;
  // The shortest command and its ";" take 4 signs, and the last command needs no ";".
  private static final int MOST_COMMANDS = 16;
  private static final int VALUES = 4;
  private static final int LAST_TRIP = 99;
  private static final int LAST_MINUTE = 9999;
  // Greater than every minute and every number of boardings, and far from where int wraps round.
  private static final int NEVER = 1000000000;
  private static final int NONE = -1;

  private final Network network = new Network();
  // What a script began with: a failed command must leave nothing behind.
  private final Network before = new Network();
  private final Network snapshot = new Network();
  private boolean hasSnapshot = false;
  private final History history = new History();
  // Two of each search, so that isConsistent can hold the answers of both ways side by side.
  private final Arrivals arrivals = new Arrivals();
  private final Arrivals roundArrivals = new Arrivals();
  private final Boardings boardings = new Boardings();
  private final Flows flows = new Flows();
  private final Script script = new Script();
  private int errorIndex = NONE;
  private int failedIndex = NONE;
  private final StringBuilder output = new StringBuilder();

  public RingTransit() {
  }

  public int addStop(int transferMinutes) throws IllegalArgumentException, IllegalStateException {
    refuse(network.stopFault(transferMinutes));
    history.keep(network);
    return network.putStop(transferMinutes);
  }

  public int addWalk(int first, int second, int minutes)
      throws IndexOutOfBoundsException, IllegalArgumentException, IllegalStateException {
    refuse(network.walkFault(first, second, minutes));
    history.keep(network);
    return network.putWalk(first, second, minutes);
  }

  public int removeWalk(int first, int second)
      throws IndexOutOfBoundsException, NoSuchElementException {
    refuse(network.walkedFault(first, second));
    history.keep(network);
    return network.dropWalk(first, second);
  }

  public int addLine(int headway, int offset, int hopMinutes, int seats)
      throws IllegalArgumentException, IllegalStateException {
    refuse(network.lineFault(headway, offset, hopMinutes, seats));
    history.keep(network);
    return network.putLine(headway, offset, hopMinutes, seats);
  }

  public int extendLine(int line, int stop)
      throws IndexOutOfBoundsException, IllegalStateException, UnsupportedOperationException {
    refuse(network.extensionFault(line, stop));
    history.keep(network);
    return network.lines[line].append(stop);
  }

  public int shortenLine(int line)
      throws IndexOutOfBoundsException, NoSuchElementException, IllegalStateException {
    refuse(network.shorteningFault(line));
    history.keep(network);
    return network.lines[line].dropLast();
  }

  public boolean setRain(boolean isRaining) {
    history.keep(network);
    boolean was = network.raining;
    network.raining = isRaining;
    return was;
  }

  public int setRainDelay(int line, int minutes)
      throws IndexOutOfBoundsException, IllegalArgumentException {
    refuse(network.delayFault(line, minutes));
    history.keep(network);
    int was = network.lines[line].rainDelay;
    network.lines[line].rainDelay = minutes;
    return was;
  }

  public boolean setClosed(int stop, boolean isClosed) throws IndexOutOfBoundsException {
    refuse(network.stopIndexFault(stop));
    history.keep(network);
    boolean was = network.closed[stop];
    network.closed[stop] = isClosed;
    return was;
  }

  public boolean setSuspended(int line, boolean isSuspended) throws IndexOutOfBoundsException {
    refuse(network.lineIndexFault(line));
    history.keep(network);
    boolean was = network.lines[line].suspended;
    network.lines[line].suspended = isSuspended;
    return was;
  }

  public int sellTicket(int line, int trip, int from, int to)
      throws IndexOutOfBoundsException, IllegalArgumentException, IllegalStateException,
          UnsupportedOperationException {
    refuse(network.saleFault(line, trip, from, to));
    history.keep(network);
    return network.putTicket(line, trip, from, to);
  }

  public int refund(int ticket) throws NoSuchElementException {
    int place = knownTicket(ticket);
    history.keep(network);
    return network.tickets.giveBack(place);
  }

  public int advance(int minutes) throws IllegalArgumentException {
    refuse(network.waitFault(minutes));
    history.keep(network);
    return network.pass(minutes);
  }

  public int minute() {
    return network.minute;
  }

  public boolean isRaining() {
    return network.raining;
  }

  public int stopCount() {
    return network.stopCount;
  }

  public int transferMinutes(int stop) throws IndexOutOfBoundsException {
    refuse(network.stopIndexFault(stop));
    return network.transfer[stop];
  }

  public boolean isClosed(int stop) throws IndexOutOfBoundsException {
    refuse(network.stopIndexFault(stop));
    return network.closed[stop];
  }

  public int walkMinutes(int first, int second)
      throws IndexOutOfBoundsException, NoSuchElementException {
    refuse(network.walkedFault(first, second));
    return network.walkBetween(first, second);
  }

  public int lineCount() {
    return network.lineCount;
  }

  public int ringSize(int line) throws IndexOutOfBoundsException {
    refuse(network.lineIndexFault(line));
    return network.lines[line].size;
  }

  public int stopAt(int line, int position)
      throws IndexOutOfBoundsException, NoSuchElementException {
    refuse(network.lineIndexFault(line));
    if (network.lines[line].size == 0 || !network.lines[line].hasPosition(position)) {
      throw new NoSuchElementException("no such position");
    }
    return network.lines[line].stopOn(position);
  }

  public int positionOf(int line, int stop)
      throws IndexOutOfBoundsException, NoSuchElementException {
    refuse(network.lineAndStopFault(line, stop));
    int place = network.lines[line].placeOf(stop);
    if (place == NONE) {
      throw new NoSuchElementException("the stop is not in the ring");
    }
    return place;
  }

  public int hopMinutes(int line) throws IndexOutOfBoundsException {
    refuse(network.lineIndexFault(line));
    return network.lines[line].pace(network.raining);
  }

  public boolean runs(int line) throws IndexOutOfBoundsException {
    refuse(network.lineIndexFault(line));
    return network.lines[line].isRunning();
  }

  public int tripMinute(int line, int trip, int position)
      throws IndexOutOfBoundsException, IllegalArgumentException, IllegalStateException {
    refuse(network.tripFault(line, trip, position));
    return network.lines[line].whenAt(trip, position, network.raining);
  }

  public int nextTrip(int line, int position, int minute)
      throws IndexOutOfBoundsException, IllegalArgumentException, IllegalStateException {
    refuse(network.nextTripFault(line, position, minute));
    return network.lines[line].firstTrip(position, minute, network.raining);
  }

  public int nextTripBySearch(int line, int position, int minute)
      throws IndexOutOfBoundsException, IllegalArgumentException, IllegalStateException {
    refuse(network.nextTripFault(line, position, minute));
    return network.lines[line].firstTripTried(position, minute, network.raining);
  }

  public int earliestArrival(int from, int to, int minute)
      throws IndexOutOfBoundsException, IllegalArgumentException, NoSuchElementException {
    refuse(network.journeyFault(from, to, minute));
    arrivals.searchEarliest(network, from, minute);
    return journeyFound(arrivals.at[to]);
  }

  public int earliestArrivalByRounds(int from, int to, int minute)
      throws IndexOutOfBoundsException, IllegalArgumentException, NoSuchElementException {
    refuse(network.journeyFault(from, to, minute));
    roundArrivals.searchRounds(network, from, minute);
    return journeyFound(roundArrivals.at[to]);
  }

  public int fewestBoardings(int from, int to)
      throws IndexOutOfBoundsException, NoSuchElementException {
    refuse(network.stopPairFault(from, to));
    boardings.searchRounds(network, from);
    return journeyFound(boardings.least[to]);
  }

  public int fewestBoardingsByTable(int from, int to)
      throws IndexOutOfBoundsException, NoSuchElementException {
    refuse(network.stopPairFault(from, to));
    boardings.fillTable(network);
    return journeyFound(boardings.tableEntry(from, to));
  }

  public int flow(int from, int to) throws IndexOutOfBoundsException, IllegalArgumentException {
    refuse(network.flowFault(from, to));
    return flows.greatest(network, from, to);
  }

  public int smallestCut(int from, int to)
      throws IndexOutOfBoundsException, IllegalArgumentException {
    refuse(network.flowFault(from, to));
    return flows.leastCut(network, from, to);
  }

  public int freeSeats(int line, int trip, int from, int to)
      throws IndexOutOfBoundsException, IllegalArgumentException {
    refuse(network.rideFault(line, trip, from, to));
    return network.seatsLeft(line, trip, from, to);
  }

  public int freeSeatsBySweep(int line, int trip, int from, int to)
      throws IndexOutOfBoundsException, IllegalArgumentException {
    refuse(network.rideFault(line, trip, from, to));
    return network.seatsLeftSwept(line, trip, from, to);
  }

  public int ticketCount() {
    return network.tickets.count;
  }

  public int ticketAt(int position) throws IndexOutOfBoundsException {
    if (position < 0 || position >= network.tickets.count) {
      throw new IndexOutOfBoundsException("no such position");
    }
    return network.tickets.row[position].id;
  }

  public int ticketLine(int ticket) throws NoSuchElementException {
    return network.tickets.row[knownTicket(ticket)].line;
  }

  public int ticketTrip(int ticket) throws NoSuchElementException {
    return network.tickets.row[knownTicket(ticket)].trip;
  }

  public int ticketFrom(int ticket) throws NoSuchElementException {
    return network.tickets.row[knownTicket(ticket)].from;
  }

  public int ticketTo(int ticket) throws NoSuchElementException {
    return network.tickets.row[knownTicket(ticket)].to;
  }

  public int ticketPrice(int ticket) throws NoSuchElementException {
    return network.tickets.row[knownTicket(ticket)].price;
  }

  public int income() {
    return network.tickets.income;
  }

  public int refundedCoins() {
    return network.tickets.refunded;
  }

  public int usedTickets() {
    return network.tickets.used;
  }

  public int lineByTickets(int rank) throws NoSuchElementException {
    int line = network.lineOfRank(rank);
    if (line == NONE) {
      throw new NoSuchElementException("no such rank");
    }
    return line;
  }

  public int stopByLines(int rank) throws NoSuchElementException {
    int stop = network.stopOfRank(rank);
    if (stop == NONE) {
      throw new NoSuchElementException("no such rank");
    }
    return stop;
  }

  public double meanPrice() throws ArithmeticException {
    if (network.tickets.count == 0) {
      throw new ArithmeticException("there are no tickets");
    }
    return (double) network.tickets.priceSum() / (double) network.tickets.count;
  }

  public float closedShare() throws ArithmeticException {
    if (network.stopCount == 0) {
      throw new ArithmeticException("there are no stops");
    }
    return (float) network.closedCount() / (float) network.stopCount;
  }

  public boolean isConsistent() {
    return journeysAgree() && flowsAgree() && seatsAgree();
  }

  public int renderLine(int line) throws IndexOutOfBoundsException {
    refuse(network.lineIndexFault(line));
    Line shown = network.lines[line];
    output.setLength(0);
    output.append(shown.headway).append('/').append(shown.offset);
    output.append('+').append(shown.pace(network.raining)).append('x').append(shown.seats);
    output.append(':');
    for (int position = 0; position < shown.size; position++) {
      if (position > 0) {
        output.append('>');
      }
      output.append(shown.ring[position]);
    }
    if (shown.suspended) {
      output.append('!');
    }
    return output.length();
  }

  public int renderTicket(int ticket) throws NoSuchElementException {
    Ticket shown = network.tickets.row[knownTicket(ticket)];
    output.setLength(0);
    output.append('#').append(shown.id);
    output.append(' ').append(shown.line).append('.').append(shown.trip);
    output.append(' ').append(shown.from).append('>').append(shown.to);
    output.append('=').append(shown.price);
    return output.length();
  }

  public char outputAt(int index) throws IndexOutOfBoundsException {
    if (index < 0 || index >= output.length()) {
      throw new IndexOutOfBoundsException("no such index");
    }
    return output.charAt(index);
  }

  public int type(char character) throws IllegalArgumentException, IllegalStateException {
    if (character < 32 || character > 126) {
      throw new IllegalArgumentException("the character is not between 32 and 126");
    }
    if (script.length >= MOST_SIGNS) {
      throw new IllegalStateException("the script buffer is full");
    }
    return script.append(character);
  }

  public int runScript() throws IllegalArgumentException, IllegalStateException {
    boolean isFormed = script.parse();
    script.length = 0;
    if (!isFormed) {
      errorIndex = script.error;
      throw new IllegalArgumentException("the script does not have the required form");
    }
    before.copyFrom(network);
    int failed = carryOutAll();
    if (failed != NONE) {
      network.copyFrom(before);
      failedIndex = failed;
      throw new IllegalStateException("a command failed");
    }
    history.keep(before);
    return script.count;
  }

  public int errorPosition() throws NoSuchElementException {
    if (errorIndex == NONE) {
      throw new NoSuchElementException("no script without the required form");
    }
    return errorIndex;
  }

  public int failedCommand() throws NoSuchElementException {
    if (failedIndex == NONE) {
      throw new NoSuchElementException("no script with a failed command");
    }
    return failedIndex;
  }

  public int undo() throws IllegalStateException {
    if (history.count == 0) {
      throw new IllegalStateException("there is nothing to undo");
    }
    history.bringBack(network);
    return history.count;
  }

  public int save() {
    snapshot.copyFrom(network);
    hasSnapshot = true;
    return network.tickets.count;
  }

  public int restore() throws IllegalStateException {
    if (!hasSnapshot) {
      throw new IllegalStateException("there is no snapshot");
    }
    network.copyFrom(snapshot);
    history.count = 0;
    return network.tickets.count;
  }

  /** Throws what the document names for a fault, and nothing for no fault. */
  private static void refuse(Fault fault) {
    switch (fault) {
      case INDEX:
        throw new IndexOutOfBoundsException("no such stop or line");
      case ARGUMENT:
        throw new IllegalArgumentException("an argument is out of its range");
      case STATE:
        throw new IllegalStateException("not possible now");
      case ELEMENT:
        throw new NoSuchElementException("there is no such element");
      case UNSUPPORTED:
        throw new UnsupportedOperationException("not possible for this stop or ride");
      default:
        return;
    }
  }

  private int knownTicket(int ticket) {
    int place = network.tickets.placeOfId(ticket);
    if (place == NONE) {
      throw new NoSuchElementException("no such ticket");
    }
    return place;
  }

  private static int journeyFound(int answer) {
    if (answer >= NEVER) {
      throw new NoSuchElementException("no such journey");
    }
    return answer;
  }

  /** Returns the index of the first command that fails, or NONE. */
  private int carryOutAll() {
    for (int index = 0; index < script.count; index++) {
      if (commandFault(index) != Fault.NOTHING) {
        return index;
      }
      carryOut(index);
    }
    return NONE;
  }

  private Fault commandFault(int index) {
    int a = script.valueOf(index, 0);
    int b = script.valueOf(index, 1);
    int c = script.valueOf(index, 2);
    int d = script.valueOf(index, 3);
    switch (script.commandOf(index)) {
      case STOP:
        return network.stopFault(a);
      case WALK:
        return network.walkFault(a, b, c);
      case LINE:
        return network.lineFault(a, b, c, d);
      case ADD:
        return network.extensionFault(a, b);
      case CUT:
        return network.shorteningFault(a);
      case CLOSE:
      case OPEN:
        return network.stopIndexFault(a);
      case HALT:
      case GO:
        return network.lineIndexFault(a);
      case SELL:
        return network.saleFault(a, b, c, d);
      case REFUND:
        return network.tickets.placeOfId(a) == NONE ? Fault.ELEMENT : Fault.NOTHING;
      case WAIT:
        return network.waitFault(a);
      default:
        return Fault.NOTHING;
    }
  }

  /** Carries out a command that has no fault. */
  private void carryOut(int index) {
    int a = script.valueOf(index, 0);
    int b = script.valueOf(index, 1);
    int c = script.valueOf(index, 2);
    int d = script.valueOf(index, 3);
    switch (script.commandOf(index)) {
      case STOP:
        network.putStop(a);
        break;
      case WALK:
        network.putWalk(a, b, c);
        break;
      case LINE:
        network.putLine(a, b, c, d);
        break;
      case ADD:
        network.lines[a].append(b);
        break;
      case CUT:
        network.lines[a].dropLast();
        break;
      case RAIN:
        network.raining = true;
        break;
      case DRY:
        network.raining = false;
        break;
      case CLOSE:
        network.closed[a] = true;
        break;
      case OPEN:
        network.closed[a] = false;
        break;
      case HALT:
        network.lines[a].suspended = true;
        break;
      case GO:
        network.lines[a].suspended = false;
        break;
      case SELL:
        network.putTicket(a, b, c, d);
        break;
      case REFUND:
        network.tickets.giveBack(network.tickets.placeOfId(a));
        break;
      case WAIT:
        network.pass(a);
        break;
      default:
        break;
    }
  }

  private boolean journeysAgree() {
    if (network.stopCount == 0) {
      return true;
    }
    arrivals.searchEarliest(network, 0, network.minute);
    roundArrivals.searchRounds(network, 0, network.minute);
    boardings.searchRounds(network, 0);
    boardings.fillTable(network);
    for (int stop = 1; stop < network.stopCount; stop++) {
      if (arrivals.at[stop] != roundArrivals.at[stop]
          || boardings.least[stop] != boardings.tableEntry(0, stop)) {
        return false;
      }
    }
    return true;
  }

  private boolean flowsAgree() {
    for (int stop = 1; stop < network.stopCount; stop++) {
      if (flows.greatest(network, 0, stop) != flows.leastCut(network, 0, stop)) {
        return false;
      }
    }
    return true;
  }

  private boolean seatsAgree() {
    for (int place = 0; place < network.tickets.count; place++) {
      Ticket ticket = network.tickets.row[place];
      int left = network.seatsLeft(ticket.line, ticket.trip, ticket.from, ticket.to);
      int swept = network.seatsLeftSwept(ticket.line, ticket.trip, ticket.from, ticket.to);
      if (left != swept || left < 0) {
        return false;
      }
    }
    return true;
  }

  /** Why a call is refused; each kind stands for one exception of the document. */
  private enum Fault {
    NOTHING, INDEX, ARGUMENT, STATE, ELEMENT, UNSUPPORTED
  }

  /** The commands of a script; in a form, # stands for a digit and @ for a number. */
  private enum Command {
    STOP("stop #"),
    WALK("walk #-# @"),
    LINE("line @/@ #x@"),
    ADD("add # #"),
    CUT("cut #"),
    RAIN("rain"),
    DRY("dry"),
    CLOSE("close #"),
    OPEN("open #"),
    HALT("halt #"),
    GO("go #"),
    SELL("sell # @ #>#"),
    REFUND("refund @"),
    WAIT("wait @");

    final String form;

    Command(String form) {
      this.form = form;
    }
  }

  /** A line with its timetable and its ring. */
  private static final class Line {
    int headway = 1;
    int offset = 0;
    int hop = 1;
    int rainDelay = 0;
    int seats = 1;
    boolean suspended = false;
    int size = 0;
    final int[] ring = new int[MOST_RING];

    void copyFrom(Line other) {
      headway = other.headway;
      offset = other.offset;
      hop = other.hop;
      rainDelay = other.rainDelay;
      seats = other.seats;
      suspended = other.suspended;
      size = other.size;
      System.arraycopy(other.ring, 0, ring, 0, MOST_RING);
    }

    /** Makes the line new: a line that was undone may have left its row behind. */
    void begin(int newHeadway, int newOffset, int newHop, int newSeats) {
      headway = newHeadway;
      offset = newOffset;
      hop = newHop;
      rainDelay = 0;
      seats = newSeats;
      suspended = false;
      size = 0;
    }

    int append(int stop) {
      if (size < MOST_RING) {
        ring[size] = stop;
        size++;
      }
      return size;
    }

    int dropLast() {
      if (size == 0) {
        return NONE;
      }
      size--;
      return ring[size];
    }

    boolean isRunning() {
      return size >= 2 && !suspended;
    }

    boolean hasPosition(int position) {
      return position >= 0 && position <= size;
    }

    int stopOn(int position) {
      return position < size ? ring[position] : ring[0];
    }

    int placeOf(int stop) {
      for (int position = 0; position < size; position++) {
        if (ring[position] == stop) {
          return position;
        }
      }
      return NONE;
    }

    int pace(boolean raining) {
      return raining ? hop + rainDelay : hop;
    }

    int whenAt(int trip, int position, boolean raining) {
      return offset + trip * headway + position * pace(raining);
    }

    int firstTrip(int position, int minute, boolean raining) {
      int missing = minute - offset - position * pace(raining);
      if (missing <= 0 || headway < 1) {
        return 0;
      }
      return (missing + headway - 1) / headway;
    }

    /** Tries trips in strides that are halved: 16383 trips reach beyond the last minute. */
    int firstTripTried(int position, int minute, boolean raining) {
      int tooEarly = 0;
      for (int stride = 8192; stride >= 1; stride /= 2) {
        if (whenAt(tooEarly + stride - 1, position, raining) < minute) {
          tooEarly += stride;
        }
      }
      return tooEarly;
    }
  }

  /** A seat on some hops of a trip. */
  private static final class Ticket {
    int id = 0;
    int line = 0;
    int trip = 0;
    int from = 0;
    int to = 0;
    int price = 0;

    void copyFrom(Ticket other) {
      id = other.id;
      line = other.line;
      trip = other.trip;
      from = other.from;
      to = other.to;
      price = other.price;
    }

    boolean isFor(int someLine, int someTrip) {
      return line == someLine && trip == someTrip;
    }
  }

  /** The tickets that exist, in ascending order of ids, and the accounts. */
  private static final class Tickets {
    final Ticket[] row = new Ticket[MOST_TICKETS];
    int count = 0;
    int nextId = 0;
    int income = 0;
    int refunded = 0;
    int used = 0;

    Tickets() {
      for (int place = 0; place < MOST_TICKETS; place++) {
        row[place] = new Ticket();
      }
    }

    void copyFrom(Tickets other) {
      count = other.count;
      nextId = other.nextId;
      income = other.income;
      refunded = other.refunded;
      used = other.used;
      for (int place = 0; place < count; place++) {
        row[place].copyFrom(other.row[place]);
      }
    }

    int put(int line, int trip, int from, int to, int price) {
      if (count >= MOST_TICKETS) {
        return NONE;
      }
      Ticket sold = row[count];
      sold.id = nextId;
      sold.line = line;
      sold.trip = trip;
      sold.from = from;
      sold.to = to;
      sold.price = price;
      count++;
      nextId++;
      income += price;
      return sold.id;
    }

    /** Takes a ticket out; its object stays in the row, to be sold again. */
    void drop(int place) {
      Ticket gone = row[place];
      count--;
      for (int later = place; later < count; later++) {
        row[later] = row[later + 1];
      }
      row[count] = gone;
    }

    int giveBack(int place) {
      if (place < 0 || place >= count) {
        return NONE;
      }
      int price = row[place].price;
      income -= price;
      refunded += price;
      drop(place);
      return price;
    }

    int placeOfId(int id) {
      for (int place = 0; place < count; place++) {
        if (row[place].id == id) {
          return place;
        }
      }
      return NONE;
    }

    int countOfLine(int line) {
      int found = 0;
      for (int place = 0; place < count; place++) {
        if (row[place].line == line) {
          found++;
        }
      }
      return found;
    }

    int countOnHop(int line, int trip, int hop) {
      int found = 0;
      for (int place = 0; place < count; place++) {
        Ticket ticket = row[place];
        if (ticket.isFor(line, trip) && ticket.from <= hop && hop < ticket.to) {
          found++;
        }
      }
      return found;
    }

    /** Counts those who get on at a position, less those who get off. */
    int changeAt(int line, int trip, int position) {
      int change = 0;
      for (int place = 0; place < count; place++) {
        Ticket ticket = row[place];
        if (ticket.isFor(line, trip) && ticket.from == position) {
          change++;
        }
        if (ticket.isFor(line, trip) && ticket.to == position) {
          change--;
        }
      }
      return change;
    }

    int priceSum() {
      int sum = 0;
      for (int place = 0; place < count; place++) {
        sum += row[place].price;
      }
      return sum;
    }
  }

  /** All that undo and the snapshot cover, with what may be changed and why it may not. */
  private static final class Network {
    int minute = 0;
    boolean raining = false;
    int stopCount = 0;
    final int[] transfer = new int[MOST_STOPS];
    final boolean[] closed = new boolean[MOST_STOPS];
    int walkCount = 0;
    // Minutes for each pair of stops, both ways; 0 where there is no walk.
    final int[] walks = new int[MOST_STOPS * MOST_STOPS];
    int lineCount = 0;
    final Line[] lines = new Line[MOST_LINES];
    final Tickets tickets = new Tickets();

    Network() {
      for (int line = 0; line < MOST_LINES; line++) {
        lines[line] = new Line();
      }
    }

    void copyFrom(Network other) {
      minute = other.minute;
      raining = other.raining;
      stopCount = other.stopCount;
      System.arraycopy(other.transfer, 0, transfer, 0, MOST_STOPS);
      for (int stop = 0; stop < MOST_STOPS; stop++) {
        closed[stop] = other.closed[stop];
      }
      walkCount = other.walkCount;
      System.arraycopy(other.walks, 0, walks, 0, MOST_STOPS * MOST_STOPS);
      lineCount = other.lineCount;
      for (int line = 0; line < lineCount; line++) {
        lines[line].copyFrom(other.lines[line]);
      }
      tickets.copyFrom(other.tickets);
    }

    boolean hasStop(int stop) {
      return stop >= 0 && stop < stopCount;
    }

    boolean hasLine(int line) {
      return line >= 0 && line < lineCount;
    }

    Fault stopIndexFault(int stop) {
      return hasStop(stop) ? Fault.NOTHING : Fault.INDEX;
    }

    Fault stopPairFault(int first, int second) {
      return hasStop(first) && hasStop(second) ? Fault.NOTHING : Fault.INDEX;
    }

    Fault lineIndexFault(int line) {
      return hasLine(line) ? Fault.NOTHING : Fault.INDEX;
    }

    Fault lineAndStopFault(int line, int stop) {
      return hasLine(line) && hasStop(stop) ? Fault.NOTHING : Fault.INDEX;
    }

    Fault stopFault(int minutes) {
      if (minutes < 0 || minutes > 9) {
        return Fault.ARGUMENT;
      }
      return stopCount < MOST_STOPS ? Fault.NOTHING : Fault.STATE;
    }

    /** Adds an open stop. */
    int putStop(int minutes) {
      if (stopCount >= MOST_STOPS) {
        return NONE;
      }
      transfer[stopCount] = minutes;
      closed[stopCount] = false;
      stopCount++;
      return stopCount - 1;
    }

    int walkBetween(int first, int second) {
      return walks[first * MOST_STOPS + second];
    }

    boolean canWalk(int first, int second) {
      return walkBetween(first, second) > 0 && !closed[first] && !closed[second];
    }

    Fault walkFault(int first, int second, int minutes) {
      if (!hasStop(first) || !hasStop(second)) {
        return Fault.INDEX;
      }
      if (first == second || minutes < 1 || minutes > 30) {
        return Fault.ARGUMENT;
      }
      boolean isFree = walkBetween(first, second) == 0 && walkCount < MOST_WALKS;
      return isFree ? Fault.NOTHING : Fault.STATE;
    }

    int putWalk(int first, int second, int minutes) {
      walks[first * MOST_STOPS + second] = minutes;
      walks[second * MOST_STOPS + first] = minutes;
      walkCount++;
      return walkCount;
    }

    Fault walkedFault(int first, int second) {
      if (!hasStop(first) || !hasStop(second)) {
        return Fault.INDEX;
      }
      return walkBetween(first, second) > 0 ? Fault.NOTHING : Fault.ELEMENT;
    }

    int dropWalk(int first, int second) {
      int minutes = walkBetween(first, second);
      walks[first * MOST_STOPS + second] = 0;
      walks[second * MOST_STOPS + first] = 0;
      walkCount--;
      return minutes;
    }

    Fault lineFault(int headway, int offset, int hop, int seats) {
      if (headway < 1 || headway > 60 || offset < 0 || offset > 59) {
        return Fault.ARGUMENT;
      }
      if (hop < 1 || hop > 9 || seats < 1 || seats > 20) {
        return Fault.ARGUMENT;
      }
      return lineCount < MOST_LINES ? Fault.NOTHING : Fault.STATE;
    }

    int putLine(int headway, int offset, int hop, int seats) {
      if (lineCount >= MOST_LINES) {
        return NONE;
      }
      lines[lineCount].begin(headway, offset, hop, seats);
      lineCount++;
      return lineCount - 1;
    }

    Fault extensionFault(int line, int stop) {
      if (!hasLine(line) || !hasStop(stop)) {
        return Fault.INDEX;
      }
      if (lines[line].size >= MOST_RING || tickets.countOfLine(line) > 0) {
        return Fault.STATE;
      }
      return lines[line].placeOf(stop) == NONE ? Fault.NOTHING : Fault.UNSUPPORTED;
    }

    Fault shorteningFault(int line) {
      if (!hasLine(line)) {
        return Fault.INDEX;
      }
      if (lines[line].size == 0) {
        return Fault.ELEMENT;
      }
      return tickets.countOfLine(line) == 0 ? Fault.NOTHING : Fault.STATE;
    }

    Fault delayFault(int line, int minutes) {
      if (!hasLine(line)) {
        return Fault.INDEX;
      }
      return minutes >= 0 && minutes <= 5 ? Fault.NOTHING : Fault.ARGUMENT;
    }

    Fault rideFault(int line, int trip, int from, int to) {
      if (!hasLine(line)) {
        return Fault.INDEX;
      }
      boolean isRide = from >= 0 && to > from && to <= lines[line].size;
      return isRide && trip >= 0 && trip <= LAST_TRIP ? Fault.NOTHING : Fault.ARGUMENT;
    }

    Fault saleFault(int line, int trip, int from, int to) {
      Fault fault = rideFault(line, trip, from, to);
      if (fault != Fault.NOTHING) {
        return fault;
      }
      if (!lines[line].isRunning() || tickets.count >= MOST_TICKETS) {
        return Fault.STATE;
      }
      return seatsLeft(line, trip, from, to) > 0 ? Fault.NOTHING : Fault.UNSUPPORTED;
    }

    int putTicket(int line, int trip, int from, int to) {
      int price = (to - from) * (raining ? 2 : 3);
      return tickets.put(line, trip, from, to, price);
    }

    int seatsLeft(int line, int trip, int from, int to) {
      int most = 0;
      for (int hop = from; hop < to; hop++) {
        most = Math.max(most, tickets.countOnHop(line, trip, hop));
      }
      return lines[line].seats - most;
    }

    int seatsLeftSwept(int line, int trip, int from, int to) {
      int aboard = 0;
      int most = 0;
      for (int position = 0; position < to; position++) {
        aboard += tickets.changeAt(line, trip, position);
        if (position >= from) {
          most = Math.max(most, aboard);
        }
      }
      return lines[line].seats - most;
    }

    Fault waitFault(int minutes) {
      return minutes >= 1 && minutes <= 120 ? Fault.NOTHING : Fault.ARGUMENT;
    }

    /** Looks at the tickets once: the weather stays, so the last minute decides for all. */
    int pass(int minutes) {
      minute += minutes;
      int usedNow = 0;
      for (int place = tickets.count - 1; place >= 0; place--) {
        Ticket ticket = tickets.row[place];
        if (lines[ticket.line].whenAt(ticket.trip, ticket.to, raining) <= minute) {
          tickets.drop(place);
          usedNow++;
        }
      }
      tickets.used += usedNow;
      return usedNow;
    }

    Fault tripFault(int line, int trip, int position) {
      if (!hasLine(line)) {
        return Fault.INDEX;
      }
      if (trip < 0 || trip > LAST_TRIP || !lines[line].hasPosition(position)) {
        return Fault.ARGUMENT;
      }
      return lines[line].size >= 2 ? Fault.NOTHING : Fault.STATE;
    }

    Fault nextTripFault(int line, int position, int someMinute) {
      if (!hasLine(line)) {
        return Fault.INDEX;
      }
      boolean isPosition = position >= 0 && position < lines[line].size;
      if (!isPosition || someMinute < 0 || someMinute > LAST_MINUTE) {
        return Fault.ARGUMENT;
      }
      return lines[line].isRunning() ? Fault.NOTHING : Fault.STATE;
    }

    Fault journeyFault(int from, int to, int someMinute) {
      if (!hasStop(from) || !hasStop(to)) {
        return Fault.INDEX;
      }
      return someMinute >= 0 && someMinute <= LAST_MINUTE ? Fault.NOTHING : Fault.ARGUMENT;
    }

    Fault flowFault(int from, int to) {
      if (!hasStop(from) || !hasStop(to)) {
        return Fault.INDEX;
      }
      return from == to ? Fault.ARGUMENT : Fault.NOTHING;
    }

    int closedCount() {
      int found = 0;
      for (int stop = 0; stop < stopCount; stop++) {
        if (closed[stop]) {
          found++;
        }
      }
      return found;
    }

    /** Counts for each line those before it: its rank needs no sorted row. */
    int lineOfRank(int rank) {
      for (int line = 0; line < lineCount; line++) {
        int earlier = 0;
        for (int other = 0; other < lineCount; other++) {
          if (isLineBefore(other, line)) {
            earlier++;
          }
        }
        if (earlier == rank) {
          return line;
        }
      }
      return NONE;
    }

    boolean isLineBefore(int first, int second) {
      int moreTickets = tickets.countOfLine(first) - tickets.countOfLine(second);
      if (moreTickets != 0) {
        return moreTickets > 0;
      }
      int moreSeats = lines[first].seats - lines[second].seats;
      return moreSeats != 0 ? moreSeats < 0 : first < second;
    }

    int stopOfRank(int rank) {
      for (int stop = 0; stop < stopCount; stop++) {
        int earlier = 0;
        for (int other = 0; other < stopCount; other++) {
          if (isStopBefore(other, stop)) {
            earlier++;
          }
        }
        if (earlier == rank) {
          return stop;
        }
      }
      return NONE;
    }

    boolean isStopBefore(int first, int second) {
      int moreRings = ringsAt(first) - ringsAt(second);
      if (moreRings != 0) {
        return moreRings > 0;
      }
      int moreWalks = walksAt(first) - walksAt(second);
      return moreWalks != 0 ? moreWalks > 0 : first < second;
    }

    int ringsAt(int stop) {
      int found = 0;
      for (int line = 0; line < lineCount; line++) {
        if (lines[line].placeOf(stop) != NONE) {
          found++;
        }
      }
      return found;
    }

    int walksAt(int stop) {
      int found = 0;
      for (int other = 0; other < stopCount; other++) {
        if (walkBetween(stop, other) > 0) {
          found++;
        }
      }
      return found;
    }
  }

  /** The networks before the latest changes, in a row that is used round and round. */
  private static final class History {
    final Network[] kept = new Network[MOST_CHANGES];
    int next = 0;
    int count = 0;

    History() {
      for (int place = 0; place < MOST_CHANGES; place++) {
        kept[place] = new Network();
      }
    }

    void keep(Network network) {
      kept[next].copyFrom(network);
      next = next == MOST_CHANGES - 1 ? 0 : next + 1;
      count = Math.min(count + 1, MOST_CHANGES);
    }

    void bringBack(Network network) {
      next = next == 0 ? MOST_CHANGES - 1 : next - 1;
      network.copyFrom(kept[next]);
      count--;
    }
  }

  /** Finds for all stops the earliest minutes in which a journey can be there. */
  private static final class Arrivals {
    // A walk can begin at once, but a ride only when the traveller is ready: two minutes a stop.
    final int[] at = new int[MOST_STOPS];
    final int[] ready = new int[MOST_STOPS];
    final boolean[] hasWalked = new boolean[MOST_STOPS];
    final boolean[] hasRidden = new boolean[MOST_STOPS];

    void begin(int from, int minute) {
      for (int stop = 0; stop < MOST_STOPS; stop++) {
        at[stop] = NEVER;
        ready[stop] = NEVER;
        hasWalked[stop] = false;
        hasRidden[stop] = false;
      }
      at[from] = minute;
      ready[from] = minute;
    }

    void searchEarliest(Network network, int from, int minute) {
      begin(from, minute);
      for (int step = 0; step < 2 * MOST_STOPS; step++) {
        int walker = earliest(at, hasWalked, network.stopCount);
        int rider = earliest(ready, hasRidden, network.stopCount);
        if (walker == NONE && rider == NONE) {
          return;
        }
        if (rider == NONE || walker != NONE && at[walker] <= ready[rider]) {
          hasWalked[walker] = true;
          walkOn(network, walker);
        } else {
          hasRidden[rider] = true;
          rideOn(network, rider);
        }
      }
    }

    void searchRounds(Network network, int from, int minute) {
      begin(from, minute);
      boolean isBetter = true;
      // No best journey comes to a stop a third time, so more rounds would find nothing.
      for (int round = 0; round <= 2 * MOST_STOPS && isBetter; round++) {
        isBetter = false;
        for (int stop = 0; stop < network.stopCount; stop++) {
          boolean byWalk = walkOn(network, stop);
          boolean byRide = rideOn(network, stop);
          isBetter = isBetter || byWalk || byRide;
        }
      }
    }

    private static int earliest(int[] minutes, boolean[] isDone, int stops) {
      int best = NONE;
      for (int stop = 0; stop < stops; stop++) {
        boolean isOpen = !isDone[stop] && minutes[stop] < NEVER;
        if (isOpen && (best == NONE || minutes[stop] < minutes[best])) {
          best = stop;
        }
      }
      return best;
    }

    private boolean walkOn(Network network, int stop) {
      boolean isBetter = false;
      for (int other = 0; at[stop] < NEVER && other < network.stopCount; other++) {
        if (network.canWalk(stop, other)) {
          int arrival = at[stop] + network.walkBetween(stop, other);
          isBetter = reach(other, arrival, arrival) || isBetter;
        }
      }
      return isBetter;
    }

    private boolean rideOn(Network network, int stop) {
      if (ready[stop] >= NEVER || network.closed[stop]) {
        return false;
      }
      boolean isBetter = false;
      for (int index = 0; index < network.lineCount; index++) {
        Line line = network.lines[index];
        int position = line.placeOf(stop);
        if (position != NONE && line.isRunning()) {
          isBetter = rideLine(network, line, position, ready[stop]) || isBetter;
        }
      }
      return isBetter;
    }

    private boolean rideLine(Network network, Line line, int position, int minute) {
      boolean isBetter = false;
      int trip = line.firstTrip(position, minute, network.raining);
      for (int later = position + 1; later <= line.size; later++) {
        int stop = line.stopOn(later);
        if (!network.closed[stop]) {
          int arrival = line.whenAt(trip, later, network.raining);
          isBetter = reach(stop, arrival, arrival + network.transfer[stop]) || isBetter;
        }
      }
      return isBetter;
    }

    private boolean reach(int stop, int arrival, int readiness) {
      boolean isBetter = arrival < at[stop] || readiness < ready[stop];
      at[stop] = Math.min(at[stop], arrival);
      ready[stop] = Math.min(ready[stop], readiness);
      return isBetter;
    }
  }

  /** Finds the fewest boardings; trips never end, so the minute does not matter. */
  private static final class Boardings {
    final int[] least = new int[MOST_STOPS];
    final int[] table = new int[MOST_STOPS * MOST_STOPS];

    void searchRounds(Network network, int from) {
      Arrays.fill(least, NEVER);
      least[from] = 0;
      for (int rides = 0; rides < MOST_STOPS; rides++) {
        walkAll(network, rides);
        for (int stop = 0; stop < network.stopCount; stop++) {
          if (least[stop] == rides) {
            rideAll(network, stop, rides + 1);
          }
        }
      }
    }

    int tableEntry(int from, int to) {
      return table[from * MOST_STOPS + to];
    }

    void fillTable(Network network) {
      for (int from = 0; from < network.stopCount; from++) {
        for (int to = 0; to < network.stopCount; to++) {
          table[from * MOST_STOPS + to] = directly(network, from, to);
        }
      }
      // Each combination doubles the parts of a journey that the table knows: 16 parts suffice.
      for (int parts = 1; parts < MOST_STOPS; parts *= 2) {
        combine(network.stopCount);
      }
    }

    private void walkAll(Network network, int rides) {
      boolean isBetter = true;
      for (int round = 0; round <= MOST_STOPS && isBetter; round++) {
        isBetter = false;
        for (int stop = 0; stop < network.stopCount; stop++) {
          for (int other = 0; other < network.stopCount && least[stop] == rides; other++) {
            if (network.canWalk(stop, other) && least[other] > rides) {
              least[other] = rides;
              isBetter = true;
            }
          }
        }
      }
    }

    private void rideAll(Network network, int stop, int rides) {
      for (int other = 0; other < network.stopCount; other++) {
        if (least[other] > rides && canRide(network, stop, other)) {
          least[other] = rides;
        }
      }
    }

    private static boolean canRide(Network network, int from, int to) {
      if (network.closed[from] || network.closed[to]) {
        return false;
      }
      for (int index = 0; index < network.lineCount; index++) {
        Line line = network.lines[index];
        int start = line.placeOf(from);
        int end = line.placeOf(to);
        // Position 0 comes again at the end of the trip.
        if (line.isRunning() && start != NONE && end != NONE && (end == 0 || end > start)) {
          return true;
        }
      }
      return false;
    }

    private static int directly(Network network, int from, int to) {
      if (from == to || network.canWalk(from, to)) {
        return 0;
      }
      return canRide(network, from, to) ? 1 : NEVER;
    }

    private void combine(int stops) {
      for (int middle = 0; middle < stops; middle++) {
        for (int from = 0; from < stops; from++) {
          for (int to = 0; to < stops; to++) {
            int sum = tableEntry(from, middle) + tableEntry(middle, to);
            if (sum < tableEntry(from, to)) {
              table[from * MOST_STOPS + to] = sum;
            }
          }
        }
      }
    }
  }

  /** Finds the greatest flow and the smallest cut over the seats of all hops. */
  private static final class Flows {
    final int[] room = new int[MOST_STOPS * MOST_STOPS];
    final int[] cameFrom = new int[MOST_STOPS];
    final int[] queue = new int[MOST_STOPS];
    int hopCount = 0;
    final int[] hopStart = new int[MOST_HOPS];
    final int[] hopEnd = new int[MOST_HOPS];
    final int[] hopSeats = new int[MOST_HOPS];

    int greatest(Network network, int from, int to) {
      gatherHops(network);
      Arrays.fill(room, 0);
      for (int hop = 0; hop < hopCount; hop++) {
        room[hopStart[hop] * MOST_STOPS + hopEnd[hop]] += hopSeats[hop];
      }
      int total = 0;
      // Every way adds a traveller, and no more can go than all lines have seats.
      for (int way = 0; way < 1000 && findWay(network.stopCount, from, to); way++) {
        total += addTravellers(from, to);
      }
      return total;
    }

    int leastCut(Network network, int from, int to) {
      gatherHops(network);
      int best = NEVER;
      int sets = 1 << network.stopCount;
      for (int set = 0; set < sets; set++) {
        if ((set >> from & 1) == 1 && (set >> to & 1) == 0) {
          best = Math.min(best, seatsOut(set));
        }
      }
      return best;
    }

    private void gatherHops(Network network) {
      hopCount = 0;
      for (int index = 0; index < network.lineCount; index++) {
        Line line = network.lines[index];
        int hops = line.isRunning() ? line.size : 0;
        for (int position = 0; position < hops && hopCount < MOST_HOPS; position++) {
          hopStart[hopCount] = line.stopOn(position);
          hopEnd[hopCount] = line.stopOn(position + 1);
          hopSeats[hopCount] = line.seats;
          hopCount++;
        }
      }
    }

    private int seatsOut(int set) {
      int sum = 0;
      for (int hop = 0; hop < hopCount; hop++) {
        if ((set >> hopStart[hop] & 1) == 1 && (set >> hopEnd[hop] & 1) == 0) {
          sum += hopSeats[hop];
        }
      }
      return sum;
    }

    /** Finds a shortest way with room left, and notes for each stop where it was reached from. */
    private boolean findWay(int stops, int from, int to) {
      Arrays.fill(cameFrom, NONE);
      cameFrom[from] = from;
      queue[0] = from;
      int queued = 1;
      for (int next = 0; next < queued; next++) {
        int stop = queue[next];
        for (int other = 0; other < stops; other++) {
          boolean isNew = cameFrom[other] == NONE && room[stop * MOST_STOPS + other] > 0;
          if (isNew && queued < MOST_STOPS) {
            cameFrom[other] = stop;
            queue[queued] = other;
            queued++;
          }
        }
      }
      return cameFrom[to] != NONE;
    }

    private int addTravellers(int from, int to) {
      int fit = NEVER;
      int stop = to;
      for (int step = 0; step < MOST_STOPS && stop != from; step++) {
        fit = Math.min(fit, room[cameFrom[stop] * MOST_STOPS + stop]);
        stop = cameFrom[stop];
      }
      stop = to;
      for (int step = 0; step < MOST_STOPS && stop != from; step++) {
        int previous = cameFrom[stop];
        room[previous * MOST_STOPS + stop] -= fit;
        room[stop * MOST_STOPS + previous] += fit;
        stop = previous;
      }
      return fit;
    }
  }

  /** The script buffer, and the commands that its text was found to hold. */
  private static final class Script {
    private static final Command[] COMMANDS = Command.values();

    final char[] signs = new char[MOST_SIGNS];
    int length = 0;
    int count = 0;
    int error = 0;
    final Command[] commands = new Command[MOST_COMMANDS];
    final int[] values = new int[MOST_COMMANDS * VALUES];

    Script() {
      for (int index = 0; index < MOST_COMMANDS; index++) {
        commands[index] = Command.DRY;
      }
    }

    int append(char sign) {
      if (length < MOST_SIGNS) {
        signs[length] = sign;
        length++;
      }
      return length;
    }

    Command commandOf(int index) {
      return commands[index];
    }

    int valueOf(int index, int value) {
      return values[index * VALUES + value];
    }

    /** Returns whether the text has the required form; if not, error is its error position. */
    boolean parse() {
      count = 0;
      error = 0;
      int index = 0;
      while (count < MOST_COMMANDS) {
        index = readCommand(index);
        if (index == NONE) {
          return false;
        }
        count++;
        if (index == length) {
          return true;
        }
        if (signs[index] != ';') {
          error = index;
          return false;
        }
        index++;
      }
      error = length;
      return false;
    }

    /** Returns the index after the command, or NONE, with the farthest index that a form came to. */
    private int readCommand(int start) {
      error = start;
      for (int kind = 0; kind < COMMANDS.length; kind++) {
        int end = readForm(COMMANDS[kind].form, start);
        if (end != NONE) {
          commands[count] = COMMANDS[kind];
          return end;
        }
      }
      return NONE;
    }

    private int readForm(String form, int start) {
      int index = start;
      int found = 0;
      for (int place = 0; place < form.length(); place++) {
        char wanted = form.charAt(place);
        int end = endOf(wanted, index);
        if (end == index) {
          error = Math.max(error, index);
          return NONE;
        }
        if ((wanted == '#' || wanted == '@') && found < VALUES) {
          values[count * VALUES + found] = numberIn(index, end);
          found++;
        }
        index = end;
      }
      return index;
    }

    /** Returns the index after what stands for a sign of a form; the same index if nothing does. */
    private int endOf(char wanted, int index) {
      if (wanted != '#' && wanted != '@') {
        return index < length && signs[index] == wanted ? index + 1 : index;
      }
      int end = index;
      int most = wanted == '#' ? index + 1 : index + 3;
      while (end < most && end < length && isDigit(signs[end])) {
        end++;
      }
      return end;
    }

    private static boolean isDigit(char sign) {
      return sign >= '0' && sign <= '9';
    }

    private int numberIn(int start, int end) {
      int number = 0;
      for (int index = start; index < end; index++) {
        number = number * 10 + (signs[index] - '0');
      }
      return number;
    }
  }
}
