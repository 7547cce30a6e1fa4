import java.util.ArrayList;
import java.util.List;

/**
 * That a refused call changes nothing: each is made on one of two objects that had the same calls,
 * and after it both must answer the same, to all that can be asked and in all that is done next.
 * The same holds for the calls that only ask.
 */
public final class UpdateRobotRefusals {
  private static final int NONE = -1;
  private static final int LOW = Integer.MIN_VALUE;
  private static final int HIGH = Integer.MAX_VALUE;
  private static final int MOST_SHOWN = 20;

  private interface Call {
    long on(UpdateRobot x);
  }

  private interface Story {
    void tell(UpdateRobot x, List<String> told);
  }

  private interface Start {
    UpdateRobot make();
  }

  private static int wrong = 0;
  private static int refusals = 0;

  private static void due(String what, boolean holds) {
    if (holds) return;
    wrong++;
    if (wrong <= MOST_SHOWN) System.out.println(what);
  }

  // ---- Where the two objects start ----

  private static UpdateRobot empty() {
    return new UpdateRobot(1);
  }

  /** Five names, needs, a group, an advisory, a proposal of each state, and a unit that waits. */
  private static UpdateRobot busy() {
    UpdateRobot x = new UpdateRobot(1);
    for (int repository : new int[] {0, 0, 1, 1, 2}) {
      x.name(repository);
    }
    int[][] kinds = {{0, 1, 0}, {0, 2}, {1, 0, 0, 2}, {0, 0}, {2, 0, 1}};
    for (int n = 0; n < 5; n++) {
      for (int kind : kinds[n]) {
        x.newer(n, kind);
      }
    }
    x.needs(0, 3, 4, 1);
    x.needs(2, 3, 1, 1);
    x.needs(2, 4, 3, 2);
    x.needs(3, 1, 2, 1);
    x.tick(3);
    x.run();
    x.pass(0, false);
    x.rule(2, 1, 3, 1);
    x.rule(3, 2, 4, 1);
    x.rule(0, 0, 2, NONE);
    x.tick(4);
    x.run();
    x.rule(0, -1, 1, NONE);
    x.tick(1);
    x.run();
    x.pass(2, true);
    x.rule(0, 1, 6, NONE);
    x.rule(4, 0, 5, NONE);
    x.advise(4, 3);
    x.newer(4, 0);
    x.tick(6);
    x.run();
    return x;
  }

  /** Twelve names of eight versions each, and sixty proposals. */
  private static UpdateRobot full() {
    UpdateRobot x = new UpdateRobot(20);
    for (int n = 0; n < 12; n++) {
      x.name(n % 3);
    }
    for (int version = 1; version < 8; version++) {
      for (int n = 0; n < 12; n++) {
        x.newer(n, version == 6 && n > 7 ? 2 : 0);
      }
      if (version < 6) {
        x.tick(1);
        x.run();
      }
    }
    for (int n = 0; n < 12; n++) {
      x.needs(n, 5, (n + 1) % 12, n % 2);
    }
    x.pass(50, true);
    x.pass(53, false);
    x.rule(1, 1, 3, 2);
    x.rule(4, 2, 4, 2);
    x.rule(9, 0, 5, NONE);
    x.advise(9, 5);
    x.tick(1);
    x.run();
    return x;
  }

  // ---- What is told of an object ----

  private static void tellNames(UpdateRobot x, List<String> told) {
    told.add("waiting " + x.waiting() + ", clock " + x.tick(0));
    for (int repository = 0; repository < 3; repository++) {
      told.add("open " + x.open(repository));
    }
    for (int n = 0; n < 13; n++) {
      told.add("name " + n + " has " + x.has(n) + ", goal " + x.goal(n) + ", chief " + x.chief(n)
          + ", solve " + x.solve(n));
    }
  }

  private static void tellProposals(UpdateRobot x, List<String> told) {
    for (int p = 0; p < 61; p++) {
      StringBuilder line = new StringBuilder("about " + p);
      for (int what = 0; what < 5; what++) {
        line.append(' ').append(x.about(p, what));
      }
      told.add(line.toString());
    }
  }

  /** Not all sixty, as an object is good for 512 calls. */
  private static void tellTargets(UpdateRobot x, List<String> told) {
    for (int p = 0; p < 61; p += p < 8 || p > 46 ? 1 : 5) {
      StringBuilder line = new StringBuilder("targets " + p);
      for (int n = 0; n < 12; n++) {
        line.append(' ').append(x.target(p, n));
      }
      told.add(line.toString());
    }
  }

  /** The needs at each version: an advisory forces the name up to it, and none may follow. */
  private static void tellNeeds(UpdateRobot x, List<String> told) {
    for (int n = 0; n < 12; n++) {
      x.rule(n, -1, 1, NONE);
    }
    for (int n = 0; n < 12; n++) {
      StringBuilder line = new StringBuilder("needs of " + n);
      for (int version = 1; version < 8; version++) {
        line.append(' ').append(x.advise(n, version - 1)).append(' ').append(x.solve(n));
      }
      told.add(line.toString());
    }
  }

  /** The kinds of the steps: each kind allowed in turn. */
  private static void tellKinds(UpdateRobot x, List<String> told) {
    for (int allowed = 0; allowed < 3; allowed++) {
      for (int n = 0; n < 12; n++) {
        x.advise(n, NONE);
        told.add("rule " + x.rule(n, allowed, 9, NONE) + ", goal " + x.goal(n) + ", solve "
            + x.solve(n));
      }
    }
  }

  /** Tick by tick, so that it shows when each unit is due. */
  private static void tellRuns(UpdateRobot x, List<String> told) {
    for (int n = 0; n < 5; n++) {
      told.add("newer " + x.newer(n, 0));
    }
    for (int tick = 0; tick < 9; tick++) {
      told.add("run " + x.run() + ", waiting " + x.waiting() + ", clock " + x.tick(1));
    }
    tellNames(x, told);
  }

  private static void tellLandings(UpdateRobot x, List<String> told) {
    for (int p = 0; p < 61; p++) {
      told.add("pass " + p + " " + x.pass(p, p % 5 != 4));
    }
    told.add("name " + x.name(1) + ", newer " + x.newer(0, 1) + ", clock " + x.tick(1000)
        + ", run " + x.run() + ", waiting " + x.waiting());
    for (int p = 0; p < 61; p++) {
      told.add("about " + p + " " + x.about(p, 0) + " " + x.about(p, 2));
    }
    tellNames(x, told);
  }

  private static final Story[] STORIES = {
    UpdateRobotRefusals::tellNames, UpdateRobotRefusals::tellProposals,
    UpdateRobotRefusals::tellTargets, UpdateRobotRefusals::tellNeeds,
    UpdateRobotRefusals::tellKinds, UpdateRobotRefusals::tellRuns,
    UpdateRobotRefusals::tellLandings
  };

  private static void same(String call, Start start, Call act, long want) {
    for (Story story : STORIES) {
      UpdateRobot x = start.make();
      long got = act.on(x);
      due(call + " answered " + got + ", due is " + want, got == want);
      List<String> told = new ArrayList<>();
      List<String> untouched = new ArrayList<>();
      story.tell(x, told);
      story.tell(start.make(), untouched);
      for (int i = 0; i < told.size(); i++) {
        due(call + " changed something: " + told.get(i) + ", but without it: " + untouched.get(i),
            told.get(i).equals(untouched.get(i)));
      }
    }
    refusals++;
  }

  // ---- What is refused ----

  private static long bit(boolean answer) {
    return answer ? 1 : 0;
  }

  private static void needs(String where, Start start, int a, int b, int c, int d) {
    same(where + "needs(" + a + ", " + b + ", " + c + ", " + d + ")", start,
        x -> bit(x.needs(a, b, c, d)), 0);
  }

  private static void rule(String where, Start start, int a, int b, int c, int d) {
    same(where + "rule(" + a + ", " + b + ", " + c + ", " + d + ")", start,
        x -> bit(x.rule(a, b, c, d)), 0);
  }

  private static void advise(String where, Start start, int a, int b) {
    same(where + "advise(" + a + ", " + b + ")", start, x -> bit(x.advise(a, b)), 0);
  }

  private static void newer(String where, Start start, int a, int b) {
    same(where + "newer(" + a + ", " + b + ")", start, x -> x.newer(a, b), NONE);
  }

  private static void pass(String where, Start start, int a) {
    same(where + "pass(" + a + ", true)", start, x -> x.pass(a, true), NONE);
    same(where + "pass(" + a + ", false)", start, x -> x.pass(a, false), NONE);
  }

  private static void tick(String where, Start start, int a) {
    same(where + "tick(" + a + ")", start, x -> x.tick(a), NONE);
  }

  private static void name(String where, Start start, int a) {
    same(where + "name(" + a + ")", start, x -> x.name(a), NONE);
  }

  /** What is refused whatever was called before, with the other arguments as good as may be. */
  private static void everywhere(String where, Start start, int good) {
    for (int bad : new int[] {LOW, -2, -1, 12, 13, HIGH}) {
      newer(where, start, bad, 0);
      needs(where, start, bad, 0, good, 5);
      needs(where, start, good, 0, bad, 5);
      rule(where, start, bad, -1, 77, 3);
      advise(where, start, bad, 0);
      advise(where, start, bad, NONE);
    }
    for (int bad : new int[] {LOW, -1, 3, HIGH}) {
      name(where, start, bad);
      newer(where, start, good, bad);
    }
    for (int bad : new int[] {LOW, -1, 8, HIGH}) {
      needs(where, start, good, bad, good + 1, 5);
      needs(where, start, good, 1, good + 1, bad);
    }
    for (int bad : new int[] {LOW, -2, 8, HIGH}) {
      advise(where, start, good, bad);
    }
    for (int bad : new int[] {LOW, -2, 4, 5, HIGH}) {
      rule(where, start, good, bad, 77, 3);
      rule(where, start, good, -1, 77, bad);
    }
    rule(where, start, good, 3, 77, 3);
    for (int bad : new int[] {LOW, -1, 0, 1001, HIGH}) {
      rule(where, start, good, -1, bad, 3);
    }
    for (int bad : new int[] {LOW, -1, 100001, HIGH}) {
      tick(where, start, bad);
    }
    for (int bad : new int[] {LOW, -1, 60, 61, HIGH}) {
      pass(where, start, bad);
    }
    for (int version = 0; version < 8; version++) {
      needs(where, start, good, version, good, 0);
    }
  }

  private static void whenEmpty() {
    everywhere("empty: ", UpdateRobotRefusals::empty, 0);
    newer("empty: ", UpdateRobotRefusals::empty, 0, 0);
    needs("empty: ", UpdateRobotRefusals::empty, 0, 0, 1, 0);
    rule("empty: ", UpdateRobotRefusals::empty, 0, 2, 1, NONE);
    advise("empty: ", UpdateRobotRefusals::empty, 0, 0);
    advise("empty: ", UpdateRobotRefusals::empty, 0, NONE);
    pass("empty: ", UpdateRobotRefusals::empty, 0);
  }

  private static void whenBusy() {
    Start busy = UpdateRobotRefusals::busy;
    for (int good : new int[] {0, 2, 3}) {
      everywhere("busy: ", busy, good);
    }
    newer("busy: ", busy, 5, 0);
    needs("busy: ", busy, 5, 0, 0, 0);
    needs("busy: ", busy, 0, 0, 5, 0);
    rule("busy: ", busy, 5, 2, 1, NONE);
    advise("busy: ", busy, 5, 0);
    int[] versions = {4, 3, 5, 3, 5};
    for (int n = 0; n < 5; n++) {
      needs("busy: ", busy, n, versions[n], (n + 1) % 5, 1);
      advise("busy: ", busy, n, versions[n]);
    }
    UpdateRobot x = busy();
    boolean[] seen = new boolean[5];
    int count = 0;
    for (; x.about(count, 0) != NONE; count++) {
      seen[x.about(count, 0)] = true;
      if (x.about(count, 0) != 0) pass("busy: ", busy, count);
    }
    pass("busy: ", busy, count);
    for (int state = 0; state < 5; state++) {
      due("busy: there is no proposal of state " + state, seen[state]);
    }
    due("busy: none waits", x.waiting() > 0);
  }

  private static void whenFull() {
    Start full = UpdateRobotRefusals::full;
    for (int good : new int[] {0, 10}) {
      everywhere("full: ", full, good);
    }
    for (int repository = 0; repository < 3; repository++) {
      name("full: ", full, repository);
    }
    for (int n = 0; n < 12; n++) {
      newer("full: ", full, n, 1);
      newer("full: ", full, n, 2);
    }
    pass("full: ", full, 0);
    pass("full: ", full, 50);
    pass("full: ", full, 53);
    UpdateRobot x = full();
    due("full: there are not 60", x.about(59, 0) != NONE && x.about(60, 0) == NONE);
    due("full: none waits", x.waiting() > 0);
  }

  // ---- What only asks ----

  private static void asking(String where, Start start) {
    for (int a : new int[] {LOW, -1, 0, 1, 2, 3, 4, 11, 12, 59, 60, HIGH}) {
      UpdateRobot x = start.make();
      same(where + "has(" + a + ")", start, y -> y.has(a), x.has(a));
      same(where + "goal(" + a + ")", start, y -> y.goal(a), x.goal(a));
      same(where + "chief(" + a + ")", start, y -> y.chief(a), x.chief(a));
      same(where + "solve(" + a + ")", start, y -> y.solve(a), x.solve(a));
      same(where + "open(" + a + ")", start, y -> y.open(a), x.open(a));
      for (int b : new int[] {LOW, -1, 0, 4, 5, 11, 12, HIGH}) {
        same(where + "about(" + a + ", " + b + ")", start, y -> y.about(a, b), x.about(a, b));
        same(where + "target(" + a + ", " + b + ")", start, y -> y.target(a, b), x.target(a, b));
      }
    }
    same(where + "waiting()", start, y -> y.waiting(), start.make().waiting());
    same(where + "tick(0)", start, y -> y.tick(0), start.make().tick(0));
  }

  public static void main(String[] args) {
    whenEmpty();
    whenBusy();
    whenFull();
    asking("empty: ", UpdateRobotRefusals::empty);
    asking("busy: ", UpdateRobotRefusals::busy);
    asking("full: ", UpdateRobotRefusals::full);
    System.out.println(refusals + " calls that may change nothing");
    System.out.println(wrong == 0 ? "all answers are as due" : wrong + " answers are not as due");
    if (wrong != 0) System.exit(1);
  }
}
