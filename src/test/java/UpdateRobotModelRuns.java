import java.util.ArrayList;
import java.util.Arrays;
import java.util.List;
import java.util.Map;
import java.util.TreeMap;
import java.util.TreeSet;

/**
 * Long runs of calls, drawn by a fixed sequence, each compared with what a model answers that
 * follows the document's sentences one by one. Wrong and far-off arguments are among them.
 */
public final class UpdateRobotModelRuns {
  private static final int NONE = -1;
  private static final int OBJECTS = 3000;
  private static final int CALLS = 512;
  private static final int MOST_SHOWN = 20;
  private static final int[] FAR_OFF = {
    Integer.MIN_VALUE, Integer.MIN_VALUE + 1, -3, -2, -1, 3, 4, 8, 12, 13, 60, 61, 1001, 100001,
    Integer.MAX_VALUE - 1, Integer.MAX_VALUE
  };

  private enum State { OPEN, LANDED, REPLACED, ABANDONED, FAILED }

  private static final class Name {
    final int repository;
    final List<Integer> steps = new ArrayList<>();
    final Map<Integer, int[]> needs = new TreeMap<>();
    int has = 0;
    int allowed = 2;
    int every = 1;
    int group = NONE;
    int advised = NONE;

    Name(int repository) { this.repository = repository; }

    boolean isVersion(int v) { return v >= 0 && v <= steps.size(); }

    boolean hit() { return advised != NONE && has <= advised; }

    boolean mayGoTo(int version) {
      return isVersion(version)
          && steps.subList(has, version).stream().allMatch(kind -> kind <= allowed);
    }

    int goal() {
      int far = has;
      while (mayGoTo(far + 1)) far++;
      if (hit() && far <= advised && isVersion(advised + 1)) return advised + 1;
      return far;
    }
  }

  private static final class Proposal {
    final int chief;
    final int clock;
    final boolean hit;
    State state = State.OPEN;
    int redone = 0;
    Map<Integer, Integer> raises;

    Proposal(int chief, int clock, boolean hit, Map<Integer, Integer> raises) {
      this.chief = chief;
      this.clock = clock;
      this.hit = hit;
      this.raises = raises;
    }
  }

  private static final class Model {
    final int limit;
    final List<Name> names = new ArrayList<>();
    final List<Proposal> proposals = new ArrayList<>();
    final Map<Integer, Integer> lastDue = new TreeMap<>();
    int clock = 0;
    int waiting = 0;
    int culprit = NONE;

    Model(int limit) { this.limit = limit < 0 ? 0 : limit > 20 ? 20 : limit; }

    boolean isName(int n) { return n >= 0 && n < names.size(); }

    boolean isProposal(int p) { return p >= 0 && p < proposals.size(); }

    List<Integer> unit(int name) {
      Name me = names.get(name);
      List<Integer> members = new ArrayList<>();
      for (int n = 0; n < names.size(); n++) {
        Name it = names.get(n);
        boolean together = me.group != NONE && it.group == me.group && it.repository == me.repository;
        if (n == name || together) members.add(n);
      }
      return members;
    }

    int chief(int name) { return unit(name).get(0); }

    boolean isChief(int name) { return isName(name) && chief(name) == name; }

    boolean unitHit(int chief) { return unit(chief).stream().anyMatch(n -> names.get(n).hit()); }

    /** What is raised, or null if there is no way (then culprit tells who). */
    Map<Integer, Integer> solve(int chief) {
      List<Integer> unit = unit(chief);
      int[] targets = new int[names.size()];
      for (int n = 0; n < targets.length; n++) {
        targets[n] = unit.contains(n) ? names.get(n).goal() : names.get(n).has;
      }
      for (int n = 0; n < targets.length; n++) {
        int[] need = names.get(n).needs.get(targets[n]);
        if (targets[n] <= names.get(n).has || need == null || need[1] <= targets[need[0]]) continue;
        if (!names.get(need[0]).mayGoTo(need[1])) {
          culprit = need[0];
          return null;
        }
        targets[need[0]] = need[1];
        n = -1;
      }
      Map<Integer, Integer> raises = new TreeMap<>();
      for (int n = 0; n < targets.length; n++) {
        if (targets[n] > names.get(n).has) raises.put(n, targets[n]);
      }
      return raises;
    }

    int run() {
      int before = proposals.size();
      waiting = 0;
      for (int chief = 0; chief < names.size(); chief++) {
        if (!isChief(chief)) continue;
        int every = unit(chief).stream().mapToInt(n -> names.get(n).every).min().getAsInt();
        boolean due = unitHit(chief) || !lastDue.containsKey(chief)
            || clock - lastDue.get(chief) >= every;
        if (!due) continue;
        lastDue.put(chief, clock);
        propose(chief);
      }
      return proposals.size() - before;
    }

    void propose(int chief) {
      Proposal open = null;
      Proposal failed = null;
      for (Proposal p : proposals) {
        if (p.chief == chief && p.state == State.OPEN) open = p;
        if (p.chief == chief && p.state == State.FAILED) failed = p;
      }
      Map<Integer, Integer> raises = solve(chief);
      if (raises == null || raises.isEmpty()) {
        if (open != null) open.state = State.ABANDONED;
      } else if (open != null && open.raises.equals(raises)) {
        return;
      } else if (failed != null && failed.raises.equals(raises)) {
        if (open != null) open.state = State.ABANDONED;
      } else if (proposals.size() == 60) {
        waiting++;
      } else if (open != null || unitHit(chief) || open(names.get(chief).repository) < limit) {
        if (open != null) open.state = State.REPLACED;
        proposals.add(new Proposal(chief, clock, unitHit(chief), raises));
      } else {
        waiting++;
      }
    }

    int open(int repository) {
      return (int) proposals.stream().filter(p -> p.state == State.OPEN)
          .filter(p -> names.get(p.chief).repository == repository).count();
    }

    int land(Proposal landing) {
      landing.state = State.LANDED;
      TreeSet<Integer> moved = new TreeSet<>();
      for (Map.Entry<Integer, Integer> e : landing.raises.entrySet()) {
        Name name = names.get(e.getKey());
        if (e.getValue() > name.has) {
          name.has = e.getValue();
          moved.add(e.getKey());
        }
      }
      for (Proposal p : proposals) {
        if (p.state != State.OPEN || p.raises.keySet().stream().noneMatch(moved::contains)) continue;
        Map<Integer, Integer> raises = isChief(p.chief) ? solve(p.chief) : null;
        if (raises == null || raises.isEmpty()) {
          p.state = State.ABANDONED;
        } else {
          p.raises = raises;
          p.redone++;
        }
      }
      return moved.size();
    }

    int about(int proposal, int what) {
      if (!isProposal(proposal)) return NONE;
      Proposal p = proposals.get(proposal);
      int[] answers = {p.state.ordinal(), p.chief, p.redone, p.clock, p.hit ? 1 : 0};
      return what >= 0 && what < answers.length ? answers[what] : NONE;
    }

    int target(int proposal, int name) {
      return isProposal(proposal) ? proposals.get(proposal).raises.getOrDefault(name, NONE) : NONE;
    }

    int call(int method, int a, int b, int c, int d) {
      boolean known = isName(a);
      switch (method) {
        case 0:
          if (a < 0 || a > 2 || names.size() == 12) return NONE;
          names.add(new Name(a));
          return names.size() - 1;
        case 1:
          if (!known || b < 0 || b > 2 || names.get(a).steps.size() == 7) return NONE;
          names.get(a).steps.add(b);
          return names.get(a).steps.size();
        case 2:
          if (!known || !isName(c) || a == c || !names.get(a).isVersion(b) || d < 0 || d > 7) return 0;
          names.get(a).needs.put(b, new int[] {c, d});
          return 1;
        case 3:
          if (!known || b < -1 || b > 2 || c < 1 || c > 1000 || d < -1 || d > 3) return 0;
          names.get(a).allowed = b;
          names.get(a).every = c;
          names.get(a).group = d;
          return 1;
        case 4:
          if (!known || (b != NONE && !names.get(a).isVersion(b))) return 0;
          names.get(a).advised = b;
          return 1;
        case 5: return known ? names.get(a).has : NONE;
        case 6: return known ? names.get(a).goal() : NONE;
        case 7: return known ? chief(a) : NONE;
        case 8: return solved(a);
        case 9:
          if (a < 0 || a > 100000 || (long) clock + a > 1000000000L) return NONE;
          return clock += a;
        case 10: return run();
        case 11: return waiting;
        case 12: return about(a, b);
        case 13: return target(a, b);
        case 14:
          if (!isProposal(a) || proposals.get(a).state != State.OPEN) return NONE;
          if (b == 1) return land(proposals.get(a));
          proposals.get(a).state = State.FAILED;
          return 0;
        default: return a >= 0 && a < 3 ? open(a) : NONE;
      }
    }

    int solved(int chief) {
      if (!isChief(chief)) return NONE;
      Map<Integer, Integer> raises = solve(chief);
      return raises == null ? -2 - culprit : raises.size();
    }
  }

  private static int ask(UpdateRobot x, int method, int a, int b, int c, int d) {
    switch (method) {
      case 0: return x.name(a);
      case 1: return x.newer(a, b);
      case 2: return x.needs(a, b, c, d) ? 1 : 0;
      case 3: return x.rule(a, b, c, d) ? 1 : 0;
      case 4: return x.advise(a, b) ? 1 : 0;
      case 5: return x.has(a);
      case 6: return x.goal(a);
      case 7: return x.chief(a);
      case 8: return x.solve(a);
      case 9: return x.tick(a);
      case 10: return x.run();
      case 11: return x.waiting();
      case 12: return x.about(a, b);
      case 13: return x.target(a, b);
      case 14: return x.pass(a, b == 1);
      default: return x.open(a);
    }
  }

  /** The same sequence for the same seed, on every machine. */
  private static final class Dice {
    long state;

    Dice(long seed) { state = seed * 0x9E3779B97F4A7C15L + 1; }

    int below(int bound) {
      state = state * 6364136223846793005L + 1442695040888963407L;
      return (int) ((state >>> 33) % bound);
    }

    int from(int least, int most) { return least + below(most - least + 1); }
  }

  /** By styles: the last group that rules name. */
  private static final int[] MOST_GROUP = {0, 3, 0, 1};

  /** How often each method is called while names and versions are made, and after. */
  private static final int[] AT_FIRST = {14, 30, 12, 12, 2, 1, 1, 1, 2, 3, 3, 1, 1, 1, 1, 1};
  private static final int[] LATER = {2, 9, 7, 6, 5, 3, 4, 2, 6, 12, 16, 4, 8, 8, 12, 4};

  /** Rules change all the time and little lands, so that there are soon 60 proposals. */
  private static final int[] RESTLESS = {2, 4, 3, 36, 4, 1, 2, 2, 2, 18, 24, 2, 2, 2, 2, 2};

  private static int draw(Dice dice, int[] weights) {
    int left = dice.below(Arrays.stream(weights).sum());
    int method = 0;
    while (left >= weights[method]) left -= weights[method++];
    return method;
  }

  /** Arguments that mostly mean something to the model as it stands. */
  private static int[] arguments(Dice dice, Model model, int method, int style) {
    int name = dice.below(Math.max(1, model.names.size()));
    int version = dice.from(0, model.isName(name) ? model.names.get(name).steps.size() : 7);
    int proposal = Math.max(0, model.proposals.size() - 1 - dice.below(9 + style * 6));
    switch (method) {
      case 0: return new int[] {style == 0 ? 0 : dice.below(3), 0, 0, 0};
      case 1: return new int[] {name, dice.below(3), 0, 0};
      case 2: return new int[] {name, version, dice.below(12), dice.below(style == 2 ? 8 : 4)};
      case 3: return new int[] {name, dice.from(style == 3 || dice.below(4) == 0 ? -1 : 1, 2),
          style < 3 && dice.below(3) == 0 ? dice.from(1, 12) : 1, dice.from(-1, MOST_GROUP[style])};
      case 4: return new int[] {name, dice.below(2) == 0 ? NONE : version, 0, 0};
      case 9: return new int[] {dice.below(20) == 0 ? dice.below(100001) : dice.below(4), 0, 0, 0};
      case 12: return new int[] {dice.below(model.proposals.size() + 1), dice.below(5), 0, 0};
      case 13: return new int[] {proposal, name, 0, 0};
      case 14: return new int[] {proposal, dice.below(3) == 0 ? 0 : 1, 0, 0};
      case 15: return new int[] {dice.below(3), 0, 0, 0};
      default: return new int[] {name, 0, 0, 0};
    }
  }

  private static int wrong = 0;
  private static final int[] calls = new int[16];
  private static final int[] ends = new int[5];
  private static int redone = 0;
  private static int full = 0;

  private static void due(int object, String call, int got, int want) {
    if (got == want) return;
    wrong++;
    if (wrong <= MOST_SHOWN) {
      System.out.println("object " + object + ": " + call + " answered " + got + ", due is " + want);
    }
  }

  private static void oneObject(int object) {
    Dice dice = new Dice(object);
    int limit = object % 50 == 0 ? FAR_OFF[dice.below(FAR_OFF.length)] : dice.from(-1, 6);
    UpdateRobot x = new UpdateRobot(limit);
    Model model = new Model(limit);
    int style = object % 4;
    int[] later = style == 3 ? RESTLESS : LATER;
    for (int i = 0; i < CALLS; i++) {
      int method = draw(dice, i < 60 ? AT_FIRST : later);
      int[] a = arguments(dice, model, method, style);
      if (dice.below(15) == 0) a[dice.below(4)] = FAR_OFF[dice.below(FAR_OFF.length)];
      int want = model.call(method, a[0], a[1], a[2], a[3]);
      int got = ask(x, method, a[0], a[1], a[2], a[3]);
      calls[method]++;
      due(object, "call " + i + ", method " + method + Arrays.toString(a), got, want);
    }
    compareAll(object, x, model);
  }

  /** At the end all that can be asked is asked. */
  private static void compareAll(int object, UpdateRobot x, Model model) {
    for (int n = -1; n < 14; n++) {
      for (int method = 5; method < 9; method++) {
        due(object, "at the end, method " + method + " of name " + n,
            ask(x, method, n, 0, 0, 0), model.call(method, n, 0, 0, 0));
      }
    }
    for (int p = -1; p < 62; p++) {
      for (int what = -1; what < 6; what++) {
        due(object, "at the end, about(" + p + ", " + what + ")", x.about(p, what), model.about(p, what));
      }
      for (int n = -1; n < 14; n++) {
        due(object, "at the end, target(" + p + ", " + n + ")", x.target(p, n), model.target(p, n));
      }
    }
    for (Proposal p : model.proposals) {
      ends[p.state.ordinal()]++;
      redone += p.redone;
    }
    full += model.proposals.size() == 60 ? 1 : 0;
  }

  private static void dueAtLeast(String what, int got, int least) {
    if (got >= least) return;
    wrong++;
    System.out.println(what + ": only " + got + ", due are " + least + " at least");
  }

  /** A comparison in which hardly anything happens would show nothing. */
  private static void dueCoverage() {
    for (int method = 0; method < calls.length; method++) {
      dueAtLeast("calls of method " + method, calls[method], OBJECTS);
    }
    for (State s : State.values()) {
      dueAtLeast("proposals " + s, ends[s.ordinal()], OBJECTS / 10);
    }
    dueAtLeast("redone", redone, OBJECTS / 10);
    dueAtLeast("objects with 60 proposals", full, OBJECTS / 100);
    System.out.println("calls " + Arrays.toString(calls) + ", proposals by states "
        + Arrays.toString(ends) + ", redone " + redone + ", objects with 60 " + full);
  }

  public static void main(String[] args) {
    for (int object = 0; object < OBJECTS; object++) {
      oneObject(object);
    }
    dueCoverage();
    System.out.println(wrong == 0 ? "all answers are as due" : wrong + " answers are not as due");
    if (wrong != 0) System.exit(1);
  }
}
