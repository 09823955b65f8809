import java.util.ArrayList;
import java.util.List;
import java.util.NoSuchElementException;
import java.util.TreeSet;
import java.util.regex.Matcher;
import java.util.regex.Pattern;

/**
 * A second program for the same document, kept apart from the first one: it stores what happened and
 * counts everything anew for each answer.
 */
final class Model {
  private static final Pattern COMMAND = Pattern.compile(
      "j(\\d):(\\d(?:,\\d){0,4})/(\\d)w(\\d)(?:<(\\d))?(?:>(\\d))?|t(\\d\\d?)|i(\\d)(\\d)", Pattern.UNICODE_CASE);
  private static final Pattern TEXT =
      Pattern.compile("(?:" + COMMAND.pattern() + ")(?:;(?:" + COMMAND.pattern() + "))*");

  private static final class Task {
    int arm;
    int path;
    List<Integer> zones = new ArrayList<>();
    int work;
    int weight;
    int source;
    int target;
    String state = "row";
    int started = -1;
    int ended = -1;

    Task copy() {
      Task t = new Task();
      t.arm = arm;
      t.path = path;
      t.zones = zones;
      t.work = work;
      t.weight = weight;
      t.source = source;
      t.target = target;
      t.state = state;
      t.started = started;
      t.ended = ended;
      return t;
    }
  }

  /** What an arm is told at the end of a tick. */
  private record Past(List<List<Integer>> held, List<Boolean> busy, int[] reason, int[] detail) {}

  private static final class State {
    TreeSet<String> locks = new TreeSet<>();
    int[] reach = {255, 255, 255};
    int[] capacity = {2, 2, 2};
    int[] came = new int[3];
    int[] left = new int[3];
    int newParts = 0;
    int gone = 0;
    List<List<Integer>> parts = new ArrayList<>();
    List<Task> tasks = new ArrayList<>();
    List<List<Integer>> rows = new ArrayList<>();
    Integer[] active = new Integer[3];
    String[] doing = {"idle", "idle", "idle"};
    int[] place = new int[3];
    int[] toGo = new int[3];
    List<Past> past = new ArrayList<>();
    List<int[]> log = new ArrayList<>();
    int time = 0;

    State() {
      for (int i = 0; i < 3; i++) {
        parts.add(new ArrayList<>());
        rows.add(new ArrayList<>());
      }
    }

    State copy() {
      State s = new State();
      s.locks = new TreeSet<>(locks);
      s.reach = reach.clone();
      s.capacity = capacity.clone();
      s.came = came.clone();
      s.left = left.clone();
      s.newParts = newParts;
      s.gone = gone;
      for (int i = 0; i < 3; i++) {
        s.parts.set(i, new ArrayList<>(parts.get(i)));
        s.rows.set(i, new ArrayList<>(rows.get(i)));
      }
      for (Task t : tasks) {
        s.tasks.add(t.copy());
      }
      s.active = active.clone();
      s.doing = doing.clone();
      s.place = place.clone();
      s.toGo = toGo.clone();
      s.past = new ArrayList<>(past);
      s.log = new ArrayList<>(log);
      s.time = time;
      return s;
    }
  }

  private State s = new State();
  private State kept = null;
  private final List<State> before = new ArrayList<>();
  private String input = "";

  // ---- basic notions

  private boolean conflict(int a, int b) {
    return a == b || s.locks.contains(Math.min(a, b) + "-" + Math.max(a, b));
  }

  private List<Integer> held(int arm) {
    List<Integer> zones = new ArrayList<>();
    if (s.active[arm] != null) {
      Task t = s.tasks.get(s.active[arm]);
      zones.add(t.zones.get(s.place[arm]));
      if (s.doing[arm].equals("moves")) {
        zones.add(t.zones.get(s.place[arm] + 1));
      }
    }
    return zones;
  }

  private int promisedParts(int buffer) {
    int n = 0;
    for (Task t : s.tasks) {
      n += t.state.equals("active") && t.source == buffer ? 1 : 0;
    }
    return n;
  }

  private int promisedPlaces(int buffer) {
    int n = 0;
    for (Task t : s.tasks) {
      n += t.state.equals("active") && t.target == buffer ? 1 : 0;
    }
    return n;
  }

  private boolean room(int buffer) {
    return s.parts.get(buffer).size() + promisedPlaces(buffer) < s.capacity[buffer];
  }

  private int patience(int arm) {
    int n = 0;
    for (int i = s.past.size() - 1; i >= 0 && s.past.get(i).reason()[arm] != 0; i--) {
      n++;
    }
    return n;
  }

  private int count(String state) {
    int n = 0;
    for (Task t : s.tasks) {
      n += t.state.equals(state) ? 1 : 0;
    }
    return n;
  }

  private static void arm(int arm) {
    index(arm >= 0 && arm <= 2);
  }

  private static void index(boolean isRight) {
    if (!isRight) {
      throw new IndexOutOfBoundsException();
    }
  }

  private static void argument(boolean isRight) {
    if (!isRight) {
      throw new IllegalArgumentException();
    }
  }

  private static void state(boolean isRight) {
    if (!isRight) {
      throw new IllegalStateException();
    }
  }

  private static void element(boolean isRight) {
    if (!isRight) {
      throw new NoSuchElementException();
    }
  }

  private void change() {
    before.add(s.copy());
  }

  // ---- requests

  private List<Integer> stillToEnter(int arm) {
    Task t = s.tasks.get(s.active[arm]);
    int from = s.place[arm] + (s.doing[arm].equals("moves") ? 2 : 1);
    return t.zones.subList(from, t.zones.size());
  }

  /** The arms that are left when no order of finishing gets further; all orders are tried. */
  private static TreeSet<Integer> stuck(Model m, List<List<Integer>> held, List<List<Integer>> enter,
      TreeSet<Integer> open) {
    TreeSet<Integer> best = open;
    for (int arm : open) {
      boolean can = true;
      for (int other : open) {
        for (int zone : enter.get(arm)) {
          for (int taken : held.get(other)) {
            can &= other == arm || !m.conflict(zone, taken);
          }
        }
      }
      if (can) {
        TreeSet<Integer> rest = new TreeSet<>(open);
        rest.remove(arm);
        TreeSet<Integer> end = stuck(m, held, enter, rest);
        best = end.size() < best.size() ? end : best;
      }
    }
    return best;
  }

  private TreeSet<Integer> stuckWith(int arm, int zone, List<Integer> behind) {
    List<List<Integer>> held = new ArrayList<>();
    List<List<Integer>> enter = new ArrayList<>();
    TreeSet<Integer> open = new TreeSet<>();
    for (int i = 0; i < 3; i++) {
      List<Integer> has = held(i);
      if (i == arm) {
        has.add(zone);
      }
      held.add(has);
      enter.add(i == arm ? behind : s.active[i] == null ? List.of() : stillToEnter(i));
      if (!has.isEmpty()) {
        open.add(i);
      }
    }
    return stuck(this, held, enter, open);
  }

  /** The reason and the detail of what an arm would be answered, null if it has nothing to request. */
  private int[] request(int arm) {
    Task t;
    int at = 0;
    boolean isStart = s.active[arm] == null;
    if (isStart) {
      if (s.rows.get(arm).isEmpty()) {
        return null;
      }
      t = s.tasks.get(s.rows.get(arm).get(0));
      if (t.source >= 0 && s.parts.get(t.source).size() <= promisedParts(t.source)) {
        return new int[] {1, t.source};
      }
      if (t.target >= 0 && !room(t.target)) {
        return new int[] {2, t.target};
      }
    } else {
      t = s.tasks.get(s.active[arm]);
      at = t.zones.size() - stillToEnter(arm).size();
      if (at == t.zones.size()) {
        return null;
      }
    }
    for (int other = 0; other < 3; other++) {
      for (int zone : held(other)) {
        if (other != arm && conflict(zone, t.zones.get(at))) {
          return new int[] {3, other};
        }
      }
    }
    TreeSet<Integer> stuck = stuckWith(arm, t.zones.get(at), t.zones.subList(at + 1, t.zones.size()));
    return stuck.isEmpty() ? new int[] {0, 0} : new int[] {4, stuck.first()};
  }

  // ---- ticks

  private void oneTick() {
    s.time++;
    List<Integer> order = new ArrayList<>(List.of(0, 1, 2));
    order.sort((a, b) -> patience(a) != patience(b) ? patience(b) - patience(a) : a - b);
    int[] reasons = new int[3];
    int[] details = new int[3];
    for (int arm : order) {
      int[] answer = act(arm);
      if (answer != null && answer[0] > 0) {
        reasons[arm] = answer[0];
        details[arm] = answer[1];
        if (s.active[arm] != null) {
          s.doing[arm] = "waits";
        }
      }
    }
    List<List<Integer>> held = new ArrayList<>();
    List<Boolean> busy = new ArrayList<>();
    for (int i = 0; i < 3; i++) {
      held.add(held(i));
      busy.add(s.active[i] != null);
    }
    s.past.add(new Past(held, busy, reasons, details));
  }

  private int[] act(int arm) {
    switch (s.doing[arm]) {
      case "idle":
        return start(arm);
      case "waits":
        return next(arm);
      case "works":
        s.toGo[arm]--;
        if (s.toGo[arm] > 0) {
          return null;
        }
        if (stillToEnter(arm).isEmpty()) {
          end(arm);
          return null;
        }
        return next(arm);
      default:
        s.toGo[arm]--;
        if (s.toGo[arm] == 0) {
          Task t = s.tasks.get(s.active[arm]);
          log(arm, 2, t.zones.get(s.place[arm]));
          s.place[arm]++;
          s.doing[arm] = "works";
          s.toGo[arm] = t.work;
        }
        return null;
    }
  }

  private int[] start(int arm) {
    int[] answer = request(arm);
    if (answer == null || answer[0] > 0) {
      return answer;
    }
    s.active[arm] = s.rows.get(arm).remove(0);
    Task t = s.tasks.get(s.active[arm]);
    t.state = "active";
    t.started = s.time;
    s.doing[arm] = "works";
    s.place[arm] = 0;
    s.toGo[arm] = t.work;
    log(arm, 0, t.zones.get(0));
    return answer;
  }

  private int[] next(int arm) {
    int[] answer = request(arm);
    if (answer == null || answer[0] > 0) {
      return answer;
    }
    Task t = s.tasks.get(s.active[arm]);
    int zone = t.zones.get(s.place[arm] + 1);
    int ticks = 1 + t.weight / 4;
    boolean isNear = false;
    for (int other = 0; other < 3; other++) {
      for (int taken : held(other)) {
        isNear |= other != arm && Math.abs(taken - zone) == 1;
      }
    }
    s.doing[arm] = "moves";
    s.toGo[arm] = ticks + (isNear ? 1 : 0);
    log(arm, 1, zone);
    return answer;
  }

  private void end(int arm) {
    Task t = s.tasks.get(s.active[arm]);
    log(arm, 3, t.zones.get(t.zones.size() - 1));
    int part = -1;
    if (t.source >= 0) {
      part = s.parts.get(t.source).remove(0);
      s.left[t.source]++;
      s.gone += t.target < 0 ? 1 : 0;
    }
    if (t.target >= 0) {
      s.parts.get(t.target).add(t.source >= 0 ? part : s.newParts++);
      s.came[t.target]++;
    }
    t.state = "ended";
    t.ended = s.time;
    s.active[arm] = null;
    s.doing[arm] = "idle";
    s.toGo[arm] = 0;
  }

  private void log(int arm, int kind, int zone) {
    s.log.add(new int[] {s.time, arm, kind, zone});
  }

  // ---- the face

  boolean setInterlock(int one, int other, boolean isMade) {
    checkInterlock(one, other, isMade);
    change();
    return doInterlock(one, other, isMade);
  }

  private void checkInterlock(int one, int other, boolean isMade) {
    index(one >= 0 && one <= 7 && other >= 0 && other <= 7);
    argument(one != other);
    if (isMade && !conflict(one, other)) {
      for (int a = 0; a < 3; a++) {
        for (int b = 0; b < 3; b++) {
          state(a == b || !held(a).contains(one) || !held(b).contains(other));
        }
      }
    }
  }

  private boolean doInterlock(int one, int other, boolean isMade) {
    String name = Math.min(one, other) + "-" + Math.max(one, other);
    return isMade ? !s.locks.add(name) : s.locks.remove(name);
  }

  int setReach(int arm, int zones) {
    arm(arm);
    argument(zones >= 0 && zones <= 255);
    change();
    int was = s.reach[arm];
    s.reach[arm] = zones;
    return was;
  }

  int setCapacity(int buffer, int capacity) {
    arm(buffer);
    argument(capacity >= 1 && capacity <= 4);
    state(s.parts.get(buffer).size() + promisedPlaces(buffer) <= capacity);
    change();
    int was = s.capacity[buffer];
    s.capacity[buffer] = capacity;
    return was;
  }

  int supply(int buffer) {
    arm(buffer);
    state(room(buffer));
    change();
    s.came[buffer]++;
    s.parts.get(buffer).add(s.newParts);
    return s.newParts++;
  }

  int zone(int zone, int what) {
    index(zone >= 0 && zone <= 7);
    argument(what >= 0 && what <= 4);
    int number = what == 0 ? -1 : 0;
    for (int arm = 0; arm < 3; arm++) {
      if (what == 0 && held(arm).contains(zone)) {
        number = arm;
      }
      if (what == 2 && (s.reach[arm] >> zone & 1) == 1) {
        number += 1 << arm;
      }
      if (what == 3 && held(arm).stream().anyMatch(z -> conflict(z, zone))) {
        number += 1 << arm;
      }
    }
    for (int z = 0; z < 8 && what == 1; z++) {
      number += conflict(zone, z) ? 1 << z : 0;
    }
    for (Past p : what == 4 ? s.past : List.<Past>of()) {
      number += p.held().stream().anyMatch(h -> h.contains(zone)) ? 1 : 0;
    }
    return number;
  }

  int buffer(int buffer, int what) {
    arm(buffer);
    argument(what >= 0 && what <= 5);
    int[] all = {s.capacity[buffer], s.parts.get(buffer).size(), promisedPlaces(buffer), promisedParts(buffer),
        s.came[buffer], s.left[buffer]};
    return all[what];
  }

  int part(int buffer, int i) {
    arm(buffer);
    element(i >= 0 && i < s.parts.get(buffer).size());
    return s.parts.get(buffer).get(i);
  }

  int give(int arm, int path, int work, int weight, int source, int target) {
    checkGive(arm, path, work, weight, source, target);
    change();
    return doGive(arm, path, work, weight, source, target);
  }

  private void checkGive(int arm, int path, int work, int weight, int source, int target) {
    arm(arm);
    index(source >= -1 && source <= 2 && target >= -1 && target <= 2);
    String digits = String.valueOf(path);
    argument(digits.matches("[1-8]{1,5}") && !digits.matches(".*(.)\\1.*"));
    argument(work >= 1 && work <= 9 && weight >= 0 && weight <= 9);
    for (char digit : digits.toCharArray()) {
      if ((s.reach[arm] >> (digit - '1') & 1) == 0) {
        throw new UnsupportedOperationException();
      }
    }
    state(s.tasks.size() < 30);
  }

  private int doGive(int arm, int path, int work, int weight, int source, int target) {
    Task t = new Task();
    t.arm = arm;
    t.path = path;
    for (char digit : String.valueOf(path).toCharArray()) {
      t.zones.add(digit - '1');
    }
    t.work = work;
    t.weight = weight;
    t.source = source;
    t.target = target;
    s.tasks.add(t);
    s.rows.get(arm).add(s.tasks.size() - 1);
    return s.tasks.size() - 1;
  }

  int withdraw(int arm) {
    arm(arm);
    element(!s.rows.get(arm).isEmpty());
    change();
    int job = s.rows.get(arm).remove(s.rows.get(arm).size() - 1);
    s.tasks.get(job).state = "withdrawn";
    return job;
  }

  int job(int job, int what) {
    index(job >= 0 && job < s.tasks.size());
    argument(what >= 0 && what <= 8);
    Task t = s.tasks.get(job);
    int state = List.of("row", "active", "ended", "withdrawn").indexOf(t.state);
    int[] all = {t.arm, t.path, t.work, t.weight, t.source, t.target, state, t.started, t.ended};
    return all[what];
  }

  int arm(int arm, int what) {
    arm(arm);
    argument(what >= 0 && what <= 9);
    boolean isIdle = s.active[arm] == null;
    int set = 0;
    for (int zone : held(arm)) {
      set |= 1 << zone;
    }
    int refused = 0;
    int busy = 0;
    for (Past p : s.past) {
      refused += p.reason()[arm] != 0 ? 1 : 0;
      busy += p.busy().get(arm) ? 1 : 0;
    }
    int[] all = {s.reach[arm], List.of("idle", "works", "moves", "waits").indexOf(s.doing[arm]),
        isIdle ? -1 : s.active[arm], s.rows.get(arm).size(), isIdle ? -1 : held(arm).get(0), s.toGo[arm],
        patience(arm), set, refused, busy};
    return all[what];
  }

  int waiting(int arm, int i) {
    arm(arm);
    index(i >= 0 && i < s.rows.get(arm).size());
    return s.rows.get(arm).get(i);
  }

  int tick(int ticks) {
    argument(ticks >= 1 && ticks <= 50);
    change();
    int was = count("ended");
    for (int i = 0; i < ticks; i++) {
      oneTick();
    }
    return count("ended") - was;
  }

  int reason(int arm, boolean isDetail) {
    arm(arm);
    element(patience(arm) > 0);
    Past last = s.past.get(s.past.size() - 1);
    return isDetail ? last.detail()[arm] : last.reason()[arm];
  }

  int wouldBe(int arm) {
    arm(arm);
    int[] answer = request(arm);
    element(answer != null);
    return answer[0];
  }

  int endsAfter(int job) {
    index(job >= 0 && job < s.tasks.size());
    element(!s.tasks.get(job).state.equals("withdrawn"));
    State real = s;
    s = s.copy();
    int ticks = 0;
    while (ticks < 200 && !s.tasks.get(job).state.equals("ended")) {
      oneTick();
      ticks++;
    }
    boolean isEnded = s.tasks.get(job).state.equals("ended");
    s = real;
    element(isEnded);
    return ticks;
  }

  int idleAfter() {
    State real = s;
    s = s.copy();
    int ticks = 0;
    while (ticks < 200 && count("row") + count("active") > 0) {
      oneTick();
      ticks++;
    }
    boolean isIdle = count("row") + count("active") == 0;
    s = real;
    element(isIdle);
    return ticks;
  }

  boolean isSafe() {
    return stuckWith(-1, -1, List.of()).isEmpty();
  }

  int entry(int i, int what) {
    int kept = Math.min(24, s.log.size());
    index(i >= 0 && i < kept);
    argument(what >= 0 && what <= 3);
    return s.log.get(s.log.size() - kept + i)[what];
  }

  int account(int what) {
    argument(what >= 0 && what <= 9);
    int parts = 0;
    int refused = 0;
    for (int i = 0; i < 3; i++) {
      parts += s.parts.get(i).size();
      refused += arm(i, 8);
    }
    int[] all = {s.time, s.tasks.size(), count("ended"), count("withdrawn"), s.newParts, parts, s.gone,
        Math.min(24, s.log.size()), refused, s.locks.size()};
    return all[what];
  }

  float use(int arm) {
    arm(arm);
    if (s.time == 0) {
      throw new ArithmeticException();
    }
    return (float) arm(arm, 9) / (float) s.time;
  }

  double meanDuration() {
    double sum = 0;
    double number = 0;
    for (Task t : s.tasks) {
      if (t.state.equals("ended")) {
        sum += t.ended - t.started;
        number++;
      }
    }
    if (number == 0) {
      throw new ArithmeticException();
    }
    return sum / number;
  }

  int feed(char letter) {
    state(input.length() < 80);
    input += letter;
    return input.length();
  }

  int perform() {
    String text = input;
    input = "";
    if (!TEXT.matcher(text).matches()) {
      return -100 - errorOf(text);
    }
    State was = s.copy();
    int commands = 0;
    try {
      for (String command : text.split(";")) {
        carryOut(command);
        commands++;
      }
    } catch (RuntimeException e) {
      s = was;
      throw new UnsupportedOperationException();
    }
    before.add(was);
    return commands;
  }

  /** The longest beginning that some text of commands has: there the matcher wants more. */
  private static int errorOf(String text) {
    for (int end = text.length(); end > 0; end--) {
      Matcher m = TEXT.matcher(text.substring(0, end));
      if (m.matches() || m.hitEnd()) {
        return end;
      }
    }
    return 0;
  }

  private void carryOut(String command) {
    Matcher m = COMMAND.matcher(command);
    m.matches();
    if (m.group(1) != null) {
      String path = "";
      for (String zone : m.group(2).split(",")) {
        path += (char) (zone.charAt(0) + 1);
      }
      path = path.matches("[1-8]+") ? path : "0";
      int[] n = {number(m, 1), Integer.parseInt(path), number(m, 3), number(m, 4), number(m, 5), number(m, 6)};
      checkGive(n[0], n[1], n[2], n[3], n[4], n[5]);
      doGive(n[0], n[1], n[2], n[3], n[4], n[5]);
    } else if (m.group(7) != null) {
      argument(number(m, 7) >= 1 && number(m, 7) <= 50);
      for (int i = 0; i < number(m, 7); i++) {
        oneTick();
      }
    } else {
      int one = number(m, 8);
      int other = number(m, 9);
      boolean isMade = one == other || !conflict(one, other);
      checkInterlock(one, other, isMade);
      doInterlock(one, other, isMade);
    }
  }

  private static int number(Matcher m, int group) {
    return m.group(group) == null ? -1 : Integer.parseInt(m.group(group));
  }

  int undo() {
    while (before.size() > 6) {
      before.remove(0);
    }
    state(!before.isEmpty());
    s = before.remove(before.size() - 1);
    return before.size();
  }

  int save() {
    kept = s.copy();
    return s.time;
  }

  int restore() {
    state(kept != null);
    s = kept.copy();
    before.clear();
    return s.time;
  }
}
