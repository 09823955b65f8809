import java.util.NoSuchElementException;

/** A scheduler of a robot cell. The numbered promises of DOC.md say what each method does. */
public final class RobotCell {
  private static final int ZONES = 8;
  private static final int BUFFERS = 3;
  private static final int ARMS = 3;
  private static final int MOST_JOBS = 30;
  private static final int MOST_CAPACITY = 4;
  private static final int MOST_PATH = 88888;
  private static final int LONGEST_PATH = 5;
  private static final int MOST_TICKS = 50;
  private static final int FORECAST_TICKS = 200;
  private static final int LOG_ENTRIES = 24;
  private static final int ENTRY_PARTS = 4;
  private static final int MOST_CHANGES = 6;
  private static final int MOST_LETTERS = 80;
  private static final int MOST_COMMANDS = 27; // a command has two characters at least, and a sign between two
  private static final int NONE = -1;

  // The states of an arm.
  private static final int IDLE = 0;
  private static final int WORKS = 1;
  private static final int MOVES = 2;
  private static final int WAITS = 3;

  // The states of a job.
  private static final int IN_ROW = 0;
  private static final int ACTIVE = 1;
  private static final int ENDED = 2;
  private static final int WITHDRAWN = 3;

  // The kinds of entries of the log.
  private static final int START = 0;
  private static final int GRANT = 1;
  private static final int RELEASE = 2;
  private static final int END = 3;

  // The reasons of a refusal.
  private static final int GRANTED = 0;
  private static final int NO_PART = 1;
  private static final int NO_ROOM = 2;
  private static final int CONFLICT = 3;
  private static final int UNSAFE = 4;

  // The kinds of commands.
  private static final int GIVE = 0;
  private static final int TICKS = 1;
  private static final int INTERLOCK = 2;

  // What forbids a change, one number for each exception.
  private static final int FINE = 0;
  private static final int BAD_INDEX = 1;
  private static final int BAD_ARGUMENT = 2;
  private static final int BAD_REACH = 3;
  private static final int BAD_STATE = 4;

  private final Cell now;
  private final Cell trial;
  private final Cell saved;
  private boolean isSaved;
  private final History history;
  private final Scheduler scheduler;
  private final CommandText commandText;

  public RobotCell() {
    now = new Cell();
    trial = new Cell();
    saved = new Cell();
    isSaved = false;
    history = new History();
    scheduler = new Scheduler();
    commandText = new CommandText();
  }

  // ---- the cell

  public boolean setInterlock(int one, int other, boolean isMade)
      throws IndexOutOfBoundsException, IllegalArgumentException, IllegalStateException {
    throwFor(now.interlockFault(one, other, isMade));
    history.keep(now);
    return now.zones.putInterlock(one, other, isMade);
  }

  public int setReach(int arm, int zones) throws IndexOutOfBoundsException, IllegalArgumentException {
    needArm(arm);
    need(zones, 255);
    history.keep(now);
    Arm changed = now.armAt(arm);
    int previous = changed.reach;
    changed.reach = zones;
    return previous;
  }

  public int setCapacity(int buffer, int capacity)
      throws IndexOutOfBoundsException, IllegalArgumentException, IllegalStateException {
    needBuffer(buffer);
    if (!isWithin(capacity, 1, MOST_CAPACITY)) {
      throw new IllegalArgumentException("the capacity is out of range");
    }
    Store changed = now.storeAt(buffer);
    if (changed.takenPlaces() > capacity) {
      throw new IllegalStateException("the buffer holds or awaits more parts");
    }
    history.keep(now);
    int previous = changed.capacity;
    changed.capacity = capacity;
    return previous;
  }

  public int supply(int buffer) throws IndexOutOfBoundsException, IllegalStateException {
    needBuffer(buffer);
    Store changed = now.storeAt(buffer);
    if (!changed.hasRoom()) {
      throw new IllegalStateException("the buffer has no room");
    }
    history.keep(now);
    int made = now.makePart();
    changed.putLast(made);
    return made;
  }

  public int zone(int zone, int what) throws IndexOutOfBoundsException, IllegalArgumentException {
    if (!isWithin(zone, 0, ZONES - 1)) {
      throw new IndexOutOfBoundsException("no such zone");
    }
    need(what, 4);
    return now.aboutZone(zone, what);
  }

  public int buffer(int buffer, int what) throws IndexOutOfBoundsException, IllegalArgumentException {
    needBuffer(buffer);
    need(what, 5);
    return now.storeAt(buffer).about(what);
  }

  public int part(int buffer, int i) throws IndexOutOfBoundsException, NoSuchElementException {
    needBuffer(buffer);
    Store asked = now.storeAt(buffer);
    if (!isWithin(i, 0, asked.count - 1)) {
      throw new NoSuchElementException("no such place");
    }
    return asked.partAt(i);
  }

  // ---- jobs

  public int give(int arm, int path, int work, int weight, int source, int target)
      throws IndexOutOfBoundsException, IllegalArgumentException, UnsupportedOperationException,
          IllegalStateException {
    throwFor(now.giveFault(arm, path, work, weight, source, target));
    history.keep(now);
    return now.addJob(arm, path, work, weight, source, target);
  }

  public int withdraw(int arm) throws IndexOutOfBoundsException, NoSuchElementException {
    needArm(arm);
    if (now.armAt(arm).rowLength == 0) {
      throw new NoSuchElementException("the row is empty");
    }
    history.keep(now);
    return now.takeBackLast(arm);
  }

  public int job(int job, int what) throws IndexOutOfBoundsException, IllegalArgumentException {
    needJob(job);
    need(what, 8);
    return now.jobAt(job).about(what);
  }

  public int arm(int arm, int what) throws IndexOutOfBoundsException, IllegalArgumentException {
    needArm(arm);
    need(what, 9);
    return now.aboutArm(now.armAt(arm), what);
  }

  public int waiting(int arm, int i) throws IndexOutOfBoundsException {
    needArm(arm);
    Arm asked = now.armAt(arm);
    if (!isWithin(i, 0, asked.rowLength - 1)) {
      throw new IndexOutOfBoundsException("no such place in the row");
    }
    return asked.rowAt(i);
  }

  // ---- time

  public int tick(int ticks) throws IllegalArgumentException {
    if (!isWithin(ticks, 1, MOST_TICKS)) {
      throw new IllegalArgumentException("the number of ticks is out of range");
    }
    history.keep(now);
    int endedBefore = now.ended;
    for (int i = 0; i < ticks; i++) {
      scheduler.makeTick(now);
    }
    return now.ended - endedBefore;
  }

  public int reason(int arm, boolean isDetail) throws IndexOutOfBoundsException, NoSuchElementException {
    needArm(arm);
    Arm asked = now.armAt(arm);
    if (asked.patience == 0) {
      throw new NoSuchElementException("nothing was refused in the tick before");
    }
    return isDetail ? asked.detail : asked.reason;
  }

  public int wouldBe(int arm) throws IndexOutOfBoundsException, NoSuchElementException {
    needArm(arm);
    Arm asked = now.armAt(arm);
    if (!now.hasRequest(asked)) {
      throw new NoSuchElementException("there is nothing to request");
    }
    return scheduler.judge.findReason(now, asked);
  }

  public int endsAfter(int job) throws IndexOutOfBoundsException, NoSuchElementException {
    needJob(job);
    int state = now.jobAt(job).state;
    if (state == ENDED) {
      return 0;
    }
    if (state == WITHDRAWN) {
      throw new NoSuchElementException("the job was withdrawn");
    }
    trial.copyFrom(now);
    for (int ticks = 1; ticks <= FORECAST_TICKS; ticks++) {
      scheduler.makeTick(trial);
      if (trial.jobAt(job).state == ENDED) {
        return ticks;
      }
    }
    throw new NoSuchElementException("the job does not end in time");
  }

  public int idleAfter() throws NoSuchElementException {
    trial.copyFrom(now);
    for (int ticks = 0; ticks <= FORECAST_TICKS; ticks++) {
      if (trial.isAllIdle()) {
        return ticks;
      }
      scheduler.makeTick(trial);
    }
    throw new NoSuchElementException("the arms are not idle in time");
  }

  public boolean isSafe() {
    return scheduler.judge.canAllFinish(now);
  }

  public int entry(int i, int what) throws IndexOutOfBoundsException, IllegalArgumentException {
    if (!isWithin(i, 0, now.log.kept() - 1)) {
      throw new IndexOutOfBoundsException("no such entry");
    }
    need(what, ENTRY_PARTS - 1);
    return now.log.partOf(i, what);
  }

  // ---- accounts

  public int account(int what) throws IllegalArgumentException {
    need(what, 9);
    return now.accountOf(what);
  }

  public float use(int arm) throws IndexOutOfBoundsException, ArithmeticException {
    needArm(arm);
    if (now.time == 0) {
      throw new ArithmeticException("no time has passed");
    }
    return (float) now.armAt(arm).busyTicks / (float) now.time;
  }

  public double meanDuration() throws ArithmeticException {
    if (now.ended == 0) {
      throw new ArithmeticException("no job has ended");
    }
    return (double) now.durations / (double) now.ended;
  }

  // ---- commands, undo and snapshots

  public int feed(char letter) throws IllegalStateException {
    if (commandText.isFull()) {
      throw new IllegalStateException("the input buffer is full");
    }
    return commandText.append(letter);
  }

  public int perform() throws UnsupportedOperationException {
    int error = commandText.readCommands();
    if (error != NONE) {
      return -100 - error;
    }
    trial.copyFrom(now);
    for (int i = 0; i < commandText.count; i++) {
      if (!carryOut(commandText.commandAt(i))) {
        throw new UnsupportedOperationException("a command cannot be carried out");
      }
    }
    history.keep(now);
    now.copyFrom(trial);
    return commandText.count;
  }

  public int undo() throws IllegalStateException {
    if (history.count == 0) {
      throw new IllegalStateException("there is no change to take back");
    }
    return history.takeBackInto(now);
  }

  public int save() {
    saved.copyFrom(now);
    isSaved = true;
    return now.time;
  }

  public int restore() throws IllegalStateException {
    if (!isSaved) {
      throw new IllegalStateException("nothing was saved");
    }
    now.copyFrom(saved);
    history.forget();
    return now.time;
  }

  /** Carries a command out on the trial, so that none has an effect if a later one cannot be. */
  private boolean carryOut(Command c) {
    switch (c.kind) {
      case GIVE:
        if (trial.giveFault(c.arm, c.path, c.work, c.weight, c.source, c.target) != FINE) {
          return false;
        }
        trial.addJob(c.arm, c.path, c.work, c.weight, c.source, c.target);
        return true;
      case TICKS:
        if (!isWithin(c.ticks, 1, MOST_TICKS)) {
          return false;
        }
        for (int i = 0; i < c.ticks; i++) {
          scheduler.makeTick(trial);
        }
        return true;
      default:
        boolean isMade = !trial.zones.hasInterlock(c.one, c.other);
        if (trial.interlockFault(c.one, c.other, isMade) != FINE) {
          return false;
        }
        trial.zones.putInterlock(c.one, c.other, isMade);
        return true;
    }
  }

  private void needJob(int job) {
    if (!isWithin(job, 0, now.given - 1)) {
      throw new IndexOutOfBoundsException("no such job");
    }
  }

  private static void needArm(int arm) {
    if (!isWithin(arm, 0, ARMS - 1)) {
      throw new IndexOutOfBoundsException("no such arm");
    }
  }

  private static void needBuffer(int buffer) {
    if (!isWithin(buffer, 0, BUFFERS - 1)) {
      throw new IndexOutOfBoundsException("no such buffer");
    }
  }

  private static void need(int argument, int most) {
    if (!isWithin(argument, 0, most)) {
      throw new IllegalArgumentException("an argument is out of range");
    }
  }

  private static void throwFor(int fault) {
    switch (fault) {
      case FINE:
        return;
      case BAD_INDEX:
        throw new IndexOutOfBoundsException("no such zone, arm or buffer");
      case BAD_ARGUMENT:
        throw new IllegalArgumentException("an argument is out of range");
      case BAD_REACH:
        throw new UnsupportedOperationException("a zone is not in the reach of the arm");
      default:
        throw new IllegalStateException("the cell does not allow this now");
    }
  }

  private static boolean isWithin(int number, int least, int most) {
    return number >= least && number <= most;
  }

  private static void copyNumbers(int[] from, int[] to) {
    for (int i = 0; i < from.length && i < to.length; i++) {
      to[i] = from[i];
    }
  }

  /** A job; its path stays in the digits in which it was given, so that a copy needs no row. */
  private static final class Job {
    int arm;
    int path;
    int length;
    int work;
    int weight;
    int source;
    int target;
    int state;
    int started;
    int ended;

    Job() {
      source = NONE;
      target = NONE;
      started = NONE;
      ended = NONE;
    }

    void copyFrom(Job other) {
      arm = other.arm;
      path = other.path;
      length = other.length;
      work = other.work;
      weight = other.weight;
      source = other.source;
      target = other.target;
      state = other.state;
      started = other.started;
      ended = other.ended;
    }

    static boolean isPath(int path) {
      if (path < 1 || path > MOST_PATH) {
        return false;
      }
      int rest = path;
      int behind = 0;
      for (int i = 0; i < LONGEST_PATH && rest > 0; i++) {
        int digit = rest % 10;
        if (digit < 1 || digit > ZONES || digit == behind) {
          return false;
        }
        behind = digit;
        rest /= 10;
      }
      return true;
    }

    static int lengthOf(int path) {
      int rest = path;
      int length = 0;
      for (int i = 0; i < LONGEST_PATH && rest > 0; i++) {
        length++;
        rest /= 10;
      }
      return length;
    }

    boolean hasPlace(int place) {
      return place >= 0 && place < length;
    }

    int zoneAt(int place) {
      if (place < 0 || place >= length) {
        return NONE;
      }
      int rest = path;
      for (int i = length - 1; i > place; i--) {
        rest /= 10;
      }
      return rest % 10 - 1;
    }

    /** The set of the zones of the path behind a place. */
    int zonesBehind(int place) {
      int rest = path;
      int set = 0;
      for (int i = length - 1; i > place && i > 0; i--) {
        set |= 1 << (rest % 10 - 1);
        rest /= 10;
      }
      return set;
    }

    int about(int what) {
      switch (what) {
        case 0:
          return arm;
        case 1:
          return path;
        case 2:
          return work;
        case 3:
          return weight;
        case 4:
          return source;
        case 5:
          return target;
        case 6:
          return state;
        case 7:
          return started;
        default:
          return ended;
      }
    }
  }

  /** A buffer. */
  private static final class Store {
    int capacity;
    int count;
    int promisedPlaces;
    int promisedParts;
    int came;
    int left;
    private final int[] parts;

    Store() {
      capacity = 2;
      parts = new int[MOST_CAPACITY];
    }

    void copyFrom(Store other) {
      capacity = other.capacity;
      count = other.count;
      promisedPlaces = other.promisedPlaces;
      promisedParts = other.promisedParts;
      came = other.came;
      left = other.left;
      copyNumbers(other.parts, parts);
    }

    int takenPlaces() {
      return count + promisedPlaces;
    }

    boolean hasRoom() {
      return count + promisedPlaces < capacity;
    }

    boolean hasPartToGive() {
      return count > promisedParts;
    }

    int partAt(int i) {
      return i >= 0 && i < count && i < parts.length ? parts[i] : NONE;
    }

    void putLast(int part) {
      if (count >= 0 && count < parts.length) {
        parts[count] = part;
        count++;
        came++;
      }
    }

    int takeFirst() {
      int first = NONE;
      if (count > 0 && parts.length > 0) {
        first = parts[0];
        for (int i = 1; i < count && i < parts.length; i++) {
          parts[i - 1] = parts[i];
        }
        count--;
        left++;
      }
      return first;
    }

    int about(int what) {
      switch (what) {
        case 0:
          return capacity;
        case 1:
          return count;
        case 2:
          return promisedPlaces;
        case 3:
          return promisedParts;
        case 4:
          return came;
        default:
          return left;
      }
    }
  }

  /** An arm. */
  private static final class Arm {
    final int number;
    int reach;
    int state;
    int job;
    int place; // of the path: where it works or waits, or from where it moves
    int toGo;
    int held;
    int patience;
    int reason;
    int detail;
    int refused;
    int busyTicks;
    int rowLength;
    private final int[] row;

    Arm(int number) {
      this.number = number;
      reach = (1 << ZONES) - 1;
      state = IDLE;
      job = NONE;
      row = new int[MOST_JOBS];
    }

    void copyFrom(Arm other) {
      reach = other.reach;
      state = other.state;
      job = other.job;
      place = other.place;
      toGo = other.toGo;
      held = other.held;
      patience = other.patience;
      reason = other.reason;
      detail = other.detail;
      refused = other.refused;
      busyTicks = other.busyTicks;
      rowLength = other.rowLength;
      copyNumbers(other.row, row);
    }

    int rowAt(int i) {
      return i >= 0 && i < rowLength && i < row.length ? row[i] : NONE;
    }

    void addToRow(int waitingJob) {
      if (rowLength >= 0 && rowLength < row.length) {
        row[rowLength] = waitingJob;
        rowLength++;
      }
    }

    int takeFirstOfRow() {
      int first = NONE;
      if (rowLength > 0 && row.length > 0) {
        first = row[0];
        for (int i = 1; i < rowLength && i < row.length; i++) {
          row[i - 1] = row[i];
        }
        rowLength--;
      }
      return first;
    }

    int takeLastOfRow() {
      int last = rowAt(rowLength - 1);
      if (rowLength > 0) {
        rowLength--;
      }
      return last;
    }

    int requestedJob() {
      return state == IDLE ? rowAt(0) : job;
    }

    /** The place of the path that a request would ask for. */
    int requestedPlace() {
      if (state == IDLE) {
        return 0;
      }
      return lastHeldPlace() + 1;
    }

    int lastHeldPlace() {
      return state == MOVES ? place + 1 : place;
    }

    void refuse(int newReason, int newDetail, int newPatience) {
      reason = newReason;
      detail = newDetail;
      patience = newPatience;
      refused++;
      if (state == WORKS) {
        state = WAITS;
      }
    }

    void workAt(int newPlace, int zone, int ticks) {
      state = WORKS;
      place = newPlace;
      toGo = ticks;
      held = 1 << zone;
    }

    void rest() {
      state = IDLE;
      job = NONE;
      place = 0;
      toGo = 0;
      held = 0;
    }
  }

  /** The interlocks, and how long each zone was held. */
  private static final class Zones {
    int interlocks;
    private final int[] conflicts;
    private final int[] heldTicks;

    Zones() {
      conflicts = new int[ZONES];
      heldTicks = new int[ZONES];
      for (int z = 0; z < conflicts.length; z++) {
        conflicts[z] = 1 << z;
      }
    }

    void copyFrom(Zones other) {
      interlocks = other.interlocks;
      copyNumbers(other.conflicts, conflicts);
      copyNumbers(other.heldTicks, heldTicks);
    }

    int conflictsOf(int zone) {
      return zone >= 0 && zone < conflicts.length ? conflicts[zone] : 0;
    }

    int conflictsOfSet(int set) {
      int all = 0;
      for (int z = 0; z < conflicts.length; z++) {
        if ((set & 1 << z) != 0) {
          all |= conflicts[z];
        }
      }
      return all;
    }

    boolean hasInterlock(int one, int other) {
      return one != other && isWithin(other, 0, ZONES - 1) && (conflictsOf(one) & 1 << other) != 0;
    }

    boolean putInterlock(int one, int other, boolean isMade) {
      boolean was = hasInterlock(one, other);
      if (was != isMade) {
        turn(one, other);
        turn(other, one);
        interlocks += isMade ? 1 : -1;
      }
      return was;
    }

    private void turn(int zone, int other) {
      if (zone >= 0 && zone < conflicts.length) {
        conflicts[zone] ^= 1 << other;
      }
    }

    int ticksHeld(int zone) {
      return zone >= 0 && zone < heldTicks.length ? heldTicks[zone] : 0;
    }

    void countTick(int heldNow) {
      for (int z = 0; z < heldTicks.length; z++) {
        if ((heldNow & 1 << z) != 0) {
          heldTicks[z]++;
        }
      }
    }
  }

  /** The log: a ring, in which an entry that is made takes the slot of the one 24 before it. */
  private static final class Log {
    private int made;
    private final int[] numbers;

    Log() {
      numbers = new int[LOG_ENTRIES * ENTRY_PARTS];
    }

    void copyFrom(Log other) {
      made = other.made;
      copyNumbers(other.numbers, numbers);
    }

    int kept() {
      return made < LOG_ENTRIES ? made : LOG_ENTRIES;
    }

    void add(int time, int arm, int kind, int zone) {
      int first = made % LOG_ENTRIES * ENTRY_PARTS;
      if (first >= 0 && first + 3 < numbers.length) {
        numbers[first] = time;
        numbers[first + 1] = arm;
        numbers[first + 2] = kind;
        numbers[first + 3] = zone;
        made++;
      }
    }

    int partOf(int i, int what) {
      int index = (made - kept() + i) % LOG_ENTRIES * ENTRY_PARTS + what;
      return index >= 0 && index < numbers.length ? numbers[index] : NONE;
    }
  }

  /** All that undo and restore bring back. */
  private static final class Cell {
    int time;
    int given;
    int ended;
    int withdrawn;
    int newParts;
    int goneParts;
    int durations;
    final Zones zones;
    final Log log;
    private final Arm[] arms;
    private final Arm noArm;
    private final Store[] stores;
    private final Store noStore;
    private final Job[] jobs;
    private final Job noJob;

    Cell() {
      zones = new Zones();
      log = new Log();
      noArm = new Arm(NONE);
      noStore = new Store();
      noJob = new Job();
      arms = new Arm[ARMS];
      for (int i = 0; i < arms.length; i++) {
        arms[i] = new Arm(i);
      }
      stores = new Store[BUFFERS];
      for (int i = 0; i < stores.length; i++) {
        stores[i] = new Store();
      }
      jobs = new Job[MOST_JOBS];
      for (int i = 0; i < jobs.length; i++) {
        jobs[i] = new Job();
      }
    }

    void copyFrom(Cell other) {
      time = other.time;
      given = other.given;
      ended = other.ended;
      withdrawn = other.withdrawn;
      newParts = other.newParts;
      goneParts = other.goneParts;
      durations = other.durations;
      zones.copyFrom(other.zones);
      log.copyFrom(other.log);
      for (int i = 0; i < ARMS; i++) {
        armAt(i).copyFrom(other.armAt(i));
      }
      for (int i = 0; i < BUFFERS; i++) {
        storeAt(i).copyFrom(other.storeAt(i));
      }
      for (int i = 0; i < given; i++) {
        jobAt(i).copyFrom(other.jobAt(i));
      }
    }

    // The lookups answer an object that belongs to nobody where there is none, never null.

    Arm armAt(int i) {
      return i >= 0 && i < arms.length && arms[i] != null ? arms[i] : noArm;
    }

    Store storeAt(int i) {
      return i >= 0 && i < stores.length && stores[i] != null ? stores[i] : noStore;
    }

    Job jobAt(int i) {
      return i >= 0 && i < jobs.length && jobs[i] != null ? jobs[i] : noJob;
    }

    // ---- changes

    int interlockFault(int one, int other, boolean isMade) {
      if (!isWithin(one, 0, ZONES - 1) || !isWithin(other, 0, ZONES - 1)) {
        return BAD_INDEX;
      }
      if (one == other) {
        return BAD_ARGUMENT;
      }
      if (!isMade || zones.hasInterlock(one, other)) {
        return FINE;
      }
      int holder = holderOf(one);
      int otherHolder = holderOf(other);
      boolean isHeldByTwo = holder != NONE && otherHolder != NONE && holder != otherHolder;
      return isHeldByTwo ? BAD_STATE : FINE;
    }

    int giveFault(int arm, int path, int work, int weight, int source, int target) {
      if (!isWithin(arm, 0, ARMS - 1)
          || !isWithin(source, NONE, BUFFERS - 1)
          || !isWithin(target, NONE, BUFFERS - 1)) {
        return BAD_INDEX;
      }
      if (!Job.isPath(path) || !isWithin(work, 1, 9) || !isWithin(weight, 0, 9)) {
        return BAD_ARGUMENT;
      }
      int reach = armAt(arm).reach;
      int rest = path;
      for (int i = 0; i < LONGEST_PATH && rest > 0; i++) {
        if ((reach & 1 << (rest % 10 - 1)) == 0) {
          return BAD_REACH;
        }
        rest /= 10;
      }
      return given < MOST_JOBS ? FINE : BAD_STATE;
    }

    int addJob(int arm, int path, int work, int weight, int source, int target) {
      int number = given;
      Job job = jobAt(number);
      job.arm = arm;
      job.path = path;
      job.length = Job.lengthOf(path);
      job.work = work;
      job.weight = weight;
      job.source = source;
      job.target = target;
      job.state = IN_ROW;
      job.started = NONE;
      job.ended = NONE;
      given++;
      armAt(arm).addToRow(number);
      return number;
    }

    int takeBackLast(int arm) {
      int number = armAt(arm).takeLastOfRow();
      jobAt(number).state = WITHDRAWN;
      withdrawn++;
      return number;
    }

    int makePart() {
      int part = newParts;
      newParts++;
      return part;
    }

    // ---- what an arm does

    void startJob(Arm arm) {
      int number = arm.takeFirstOfRow();
      Job job = jobAt(number);
      int zone = job.zoneAt(0);
      job.state = ACTIVE;
      job.started = time;
      if (job.source != NONE) {
        storeAt(job.source).promisedParts++;
      }
      if (job.target != NONE) {
        storeAt(job.target).promisedPlaces++;
      }
      arm.job = number;
      arm.workAt(0, zone, job.work);
      log.add(time, arm.number, START, zone);
    }

    void startMove(Arm arm) {
      Job job = jobAt(arm.job);
      int zone = job.zoneAt(arm.place + 1);
      int neighbors = 1 << (zone + 1) | 1 << zone >> 1;
      int slower = (heldByOthers(arm) & neighbors) != 0 ? 1 : 0;
      arm.state = MOVES;
      arm.toGo = 1 + job.weight / 4 + slower;
      arm.held |= 1 << zone;
      log.add(time, arm.number, GRANT, zone);
    }

    void endMove(Arm arm) {
      Job job = jobAt(arm.job);
      int former = job.zoneAt(arm.place);
      arm.workAt(arm.place + 1, job.zoneAt(arm.place + 1), job.work);
      log.add(time, arm.number, RELEASE, former);
    }

    void endJob(Arm arm) {
      Job job = jobAt(arm.job);
      log.add(time, arm.number, END, job.zoneAt(arm.place));
      moveParts(job);
      job.state = ENDED;
      job.ended = time;
      ended++;
      durations += job.ended - job.started;
      arm.rest();
    }

    private void moveParts(Job job) {
      int part = NONE;
      if (job.source != NONE) {
        Store source = storeAt(job.source);
        part = source.takeFirst();
        source.promisedParts--;
      }
      if (job.target != NONE) {
        Store target = storeAt(job.target);
        target.promisedPlaces--;
        target.putLast(job.source != NONE ? part : makePart());
      } else if (job.source != NONE) {
        goneParts++;
      }
    }

    void countTick() {
      int held = 0;
      for (int i = 0; i < ARMS; i++) {
        Arm arm = armAt(i);
        held |= arm.held;
        if (arm.state != IDLE) {
          arm.busyTicks++;
        }
      }
      zones.countTick(held);
    }

    /** How many arms act before this one, from its patience and its number. */
    int armsBefore(int number) {
      int patience = armAt(number).patience;
      int before = 0;
      for (int i = 0; i < ARMS; i++) {
        int other = armAt(i).patience;
        if (other > patience || other == patience && i < number) {
          before++;
        }
      }
      return before;
    }

    // ---- answers

    boolean hasRequest(Arm arm) {
      return jobAt(arm.requestedJob()).hasPlace(arm.requestedPlace());
    }

    boolean isAllIdle() {
      for (int i = 0; i < ARMS; i++) {
        Arm arm = armAt(i);
        if (arm.state != IDLE || arm.rowLength > 0) {
          return false;
        }
      }
      return true;
    }

    int heldByOthers(Arm arm) {
      int held = 0;
      for (int i = 0; i < ARMS; i++) {
        if (i != arm.number) {
          held |= armAt(i).held;
        }
      }
      return held;
    }

    int holderOf(int zone) {
      for (int i = 0; i < ARMS; i++) {
        if ((armAt(i).held & 1 << zone) != 0) {
          return i;
        }
      }
      return NONE;
    }

    int holdersOfAny(int set) {
      int holders = 0;
      for (int i = 0; i < ARMS; i++) {
        if ((armAt(i).held & set) != 0) {
          holders |= 1 << i;
        }
      }
      return holders;
    }

    int armsThatReach(int zone) {
      int reaching = 0;
      for (int i = 0; i < ARMS; i++) {
        if ((armAt(i).reach & 1 << zone) != 0) {
          reaching |= 1 << i;
        }
      }
      return reaching;
    }

    int aboutZone(int zone, int what) {
      switch (what) {
        case 0:
          return holderOf(zone);
        case 1:
          return zones.conflictsOf(zone);
        case 2:
          return armsThatReach(zone);
        case 3:
          return holdersOfAny(zones.conflictsOf(zone));
        default:
          return zones.ticksHeld(zone);
      }
    }

    int aboutArm(Arm arm, int what) {
      switch (what) {
        case 0:
          return arm.reach;
        case 1:
          return arm.state;
        case 2:
          return arm.job;
        case 3:
          return arm.rowLength;
        case 4:
          return jobAt(arm.job).zoneAt(arm.place);
        case 5:
          return arm.toGo;
        case 6:
          return arm.patience;
        case 7:
          return arm.held;
        case 8:
          return arm.refused;
        default:
          return arm.busyTicks;
      }
    }

    int accountOf(int what) {
      switch (what) {
        case 0:
          return time;
        case 1:
          return given;
        case 2:
          return ended;
        case 3:
          return withdrawn;
        case 4:
          return newParts;
        case 5:
          return partsInStores();
        case 6:
          return goneParts;
        case 7:
          return log.kept();
        case 8:
          return refusals();
        default:
          return zones.interlocks;
      }
    }

    private int partsInStores() {
      int parts = 0;
      for (int i = 0; i < BUFFERS; i++) {
        parts += storeAt(i).count;
      }
      return parts;
    }

    private int refusals() {
      int refusals = 0;
      for (int i = 0; i < ARMS; i++) {
        refusals += armAt(i).refused;
      }
      return refusals;
    }
  }

  /** Finds whether a request is granted, and whether all arms can finish. */
  private static final class Judge {
    int detail;
    private int active;
    private final int[] held;
    private final int[] inTheWay; // the zones that keep an arm from finishing if another arm holds one

    Judge() {
      held = new int[ARMS];
      inTheWay = new int[ARMS];
    }

    /** The reason for which what an arm asks for next is refused; its detail is left in the field. */
    int findReason(Cell cell, Arm arm) {
      Job job = cell.jobAt(arm.requestedJob());
      int place = arm.requestedPlace();
      int zone = job.zoneAt(place);
      int reason = arm.state == IDLE ? bufferReason(cell, job) : GRANTED;
      if (reason != GRANTED) {
        return reason;
      }
      int holders = cell.holdersOfAny(cell.zones.conflictsOf(zone)) & ~(1 << arm.number);
      if (holders != 0) {
        detail = lowest(holders);
        return CONFLICT;
      }
      lookAt(cell);
      suppose(arm, 1 << zone, cell.zones.conflictsOfSet(job.zonesBehind(place)));
      int stuck = findStuck();
      if (stuck != 0) {
        detail = lowest(stuck);
        return UNSAFE;
      }
      return GRANTED;
    }

    boolean canAllFinish(Cell cell) {
      lookAt(cell);
      return findStuck() == 0;
    }

    private int bufferReason(Cell cell, Job job) {
      if (job.source != NONE && !cell.storeAt(job.source).hasPartToGive()) {
        detail = job.source;
        return NO_PART;
      }
      if (job.target != NONE && !cell.storeAt(job.target).hasRoom()) {
        detail = job.target;
        return NO_ROOM;
      }
      return GRANTED;
    }

    private void lookAt(Cell cell) {
      active = 0;
      for (int i = 0; i < held.length && i < inTheWay.length; i++) {
        Arm arm = cell.armAt(i);
        held[i] = arm.held;
        inTheWay[i] = 0;
        if (arm.state != IDLE) {
          active |= 1 << i;
          inTheWay[i] = cell.zones.conflictsOfSet(cell.jobAt(arm.job).zonesBehind(arm.lastHeldPlace()));
        }
      }
    }

    private void suppose(Arm arm, int requested, int conflictsBehind) {
      int i = arm.number;
      if (i >= 0 && i < held.length && i < inTheWay.length) {
        active |= 1 << i;
        held[i] |= requested;
        inTheWay[i] = conflictsBehind;
      }
    }

    /** The set of active arms that cannot finish. No zone has two holders, so others hold what is not its own. */
    private int findStuck() {
      int stuck = active;
      int allHeld = 0;
      for (int i = 0; i < held.length; i++) {
        allHeld |= held[i];
      }
      for (int round = 0; round < ARMS; round++) {
        for (int i = 0; i < held.length && i < inTheWay.length; i++) {
          if ((stuck & 1 << i) != 0 && (inTheWay[i] & allHeld & ~held[i]) == 0) {
            stuck &= ~(1 << i);
            allHeld &= ~held[i];
          }
        }
      }
      return stuck;
    }

    private static int lowest(int set) {
      for (int i = 0; i < ARMS; i++) {
        if ((set & 1 << i) != 0) {
          return i;
        }
      }
      return NONE;
    }
  }

  /** Makes ticks. */
  private static final class Scheduler {
    final Judge judge;
    private final int[] order;

    Scheduler() {
      judge = new Judge();
      order = new int[ARMS];
    }

    void makeTick(Cell cell) {
      cell.time++;
      findOrder(cell);
      for (int i = 0; i < order.length; i++) {
        act(cell, cell.armAt(order[i]));
      }
      cell.countTick();
    }

    private void findOrder(Cell cell) {
      for (int i = 0; i < ARMS; i++) {
        int rank = cell.armsBefore(i);
        if (rank >= 0 && rank < order.length) {
          order[rank] = i;
        }
      }
    }

    private void act(Cell cell, Arm arm) {
      int patience = arm.patience;
      arm.patience = 0;
      if (arm.toGo > 1) {
        arm.toGo--;
        return;
      }
      arm.toGo = 0;
      if (arm.state == MOVES) {
        cell.endMove(arm);
      } else if (cell.hasRequest(arm)) {
        int reason = judge.findReason(cell, arm);
        if (reason != GRANTED) {
          arm.refuse(reason, judge.detail, patience + 1);
        } else if (arm.state == IDLE) {
          cell.startJob(arm);
        } else {
          cell.startMove(arm);
        }
      } else if (arm.state != IDLE) {
        cell.endJob(arm);
      }
    }
  }

  /** What undo can take back: a ring of cells as they were before each change. */
  private static final class History {
    int count;
    private int first;
    private final Cell[] cells;
    private final Cell noCell;

    History() {
      noCell = new Cell();
      cells = new Cell[MOST_CHANGES];
      for (int i = 0; i < cells.length; i++) {
        cells[i] = new Cell();
      }
    }

    private Cell cellAt(int i) {
      int slot = (first + i) % MOST_CHANGES;
      return slot >= 0 && slot < cells.length && cells[slot] != null ? cells[slot] : noCell;
    }

    void keep(Cell cell) {
      if (count == MOST_CHANGES) {
        first = (first + 1) % MOST_CHANGES;
        count--;
      }
      cellAt(count).copyFrom(cell);
      count++;
    }

    int takeBackInto(Cell cell) {
      count--;
      cell.copyFrom(cellAt(count));
      return count;
    }

    void forget() {
      count = 0;
    }
  }

  /** A command of a text. */
  private static final class Command {
    int kind;
    int arm;
    int path;
    int work;
    int weight;
    int source;
    int target;
    int ticks;
    int one;
    int other;

    /** Appends a zone to the path; a zone that there is not spoils the path for good. */
    void addZone(int zone) {
      path = path < 0 || zone >= ZONES ? NONE : path * 10 + zone + 1;
    }
  }

  /** The input buffer and its reading. Reading stops at the first character that cannot go on. */
  private static final class CommandText {
    int count;
    private final char[] letters;
    private int length;
    private int at;
    private int digit;
    private final Command[] commands;
    private final Command noCommand;

    CommandText() {
      letters = new char[MOST_LETTERS];
      noCommand = new Command();
      commands = new Command[MOST_COMMANDS];
      for (int i = 0; i < commands.length; i++) {
        commands[i] = new Command();
      }
    }

    boolean isFull() {
      return length >= letters.length;
    }

    int append(char letter) {
      if (length >= 0 && length < letters.length) {
        letters[length] = letter;
        length++;
      }
      return length;
    }

    Command commandAt(int i) {
      return i >= 0 && i < commands.length && commands[i] != null ? commands[i] : noCommand;
    }

    /** Reads the text and empties the buffer; answers the error position, or -1 for a correct text. */
    int readCommands() {
      at = 0;
      boolean isCorrect = readText();
      length = 0;
      return isCorrect ? NONE : at;
    }

    private boolean readText() {
      for (int i = 0; i < commands.length; i++) {
        if (!readCommand(commandAt(i))) {
          return false;
        }
        count = i + 1;
        if (!take(';')) {
          return at == length;
        }
      }
      return false;
    }

    private boolean readCommand(Command command) {
      if (take('j')) {
        command.kind = GIVE;
        return readJob(command);
      }
      if (take('t')) {
        command.kind = TICKS;
        return readTicks(command);
      }
      if (take('i')) {
        command.kind = INTERLOCK;
        return readInterlock(command);
      }
      return false;
    }

    private boolean readJob(Command command) {
      if (!takeDigit()) {
        return false;
      }
      command.arm = digit;
      if (!take(':') || !readPath(command) || !take('/') || !takeDigit()) {
        return false;
      }
      command.work = digit;
      if (!take('w') || !takeDigit()) {
        return false;
      }
      command.weight = digit;
      return readBuffers(command);
    }

    private boolean readPath(Command command) {
      command.path = 0;
      for (int i = 0; i < LONGEST_PATH; i++) {
        if (i > 0 && !take(',')) {
          return true;
        }
        if (!takeDigit()) {
          return false;
        }
        command.addZone(digit);
      }
      return true;
    }

    private boolean readBuffers(Command command) {
      command.source = NONE;
      command.target = NONE;
      if (take('<')) {
        if (!takeDigit()) {
          return false;
        }
        command.source = digit;
      }
      if (take('>')) {
        if (!takeDigit()) {
          return false;
        }
        command.target = digit;
      }
      return true;
    }

    private boolean readTicks(Command command) {
      if (!takeDigit()) {
        return false;
      }
      command.ticks = digit;
      if (takeDigit()) {
        command.ticks = command.ticks * 10 + digit;
      }
      return true;
    }

    private boolean readInterlock(Command command) {
      if (!takeDigit()) {
        return false;
      }
      command.one = digit;
      if (!takeDigit()) {
        return false;
      }
      command.other = digit;
      return true;
    }

    private boolean take(char letter) {
      if (at >= 0 && at < length && at < letters.length && letters[at] == letter) {
        at++;
        return true;
      }
      return false;
    }

    private boolean takeDigit() {
      if (at < 0 || at >= length || at >= letters.length || letters[at] < '0' || letters[at] > '9') {
        return false;
      }
      digit = letters[at] - '0';
      at++;
      return true;
    }
  }
}
