import java.lang.reflect.Constructor;
import java.lang.reflect.Field;
import java.lang.reflect.Method;
import java.lang.reflect.Modifier;
import java.util.Arrays;
import java.util.Set;
import java.util.TreeSet;

/** Promise by promise: ordinary calls, the edges that the document names, and wrong inputs. */
public final class UpdateRobotPromises {
  private static final int NONE = -1;
  private static final int OPEN = 0;
  private static final int LANDED = 1;
  private static final int REPLACED = 2;
  private static final int ABANDONED = 3;
  private static final int FAILED = 4;
  private static final int[] FAR_OFF = {Integer.MIN_VALUE, -1000, -2, 1001, Integer.MAX_VALUE};

  private static String promise = "";
  private static int wrong = 0;

  private static void due(String call, long got, long want) {
    if (got != want) {
      wrong++;
      System.out.println(promise + ": " + call + " answered " + got + ", due is " + want);
    }
  }

  private static void due(String call, boolean got, boolean want) {
    due(call, got ? 1 : 0, want ? 1 : 0);
  }

  private static UpdateRobot robot(int limit, int... repositories) {
    UpdateRobot x = new UpdateRobot(limit);
    for (int repository : repositories) {
      x.name(repository);
    }
    return x;
  }

  private static void steps(UpdateRobot x, int name, int... kinds) {
    for (int kind : kinds) {
      x.newer(name, kind);
    }
  }

  /** The answers of target(proposal, 0), target(proposal, 1), ... in turn. */
  private static void dueTargets(UpdateRobot x, int proposal, int... wants) {
    for (int name = 0; name < wants.length; name++) {
      due("target(" + proposal + ", " + name + ")", x.target(proposal, name), wants[name]);
    }
  }

  private static void dueStates(UpdateRobot x, int... wants) {
    for (int p = 0; p < wants.length; p++) {
      due("about(" + p + ", 0)", x.about(p, 0), wants[p]);
    }
    due("about(" + wants.length + ", 0)", x.about(wants.length, 0), NONE);
  }

  private static void face() {
    promise = "the public face";
    String[] wants = {
      "UpdateRobot(int)", "boolean advise(int,int)", "boolean needs(int,int,int,int)",
      "boolean rule(int,int,int,int)", "int about(int,int)", "int chief(int)", "int goal(int)",
      "int has(int)", "int name(int)", "int newer(int,int)", "int open(int)",
      "int pass(int,boolean)", "int run()", "int solve(int)", "int target(int,int)",
      "int tick(int)", "int waiting()", "static final int NONE"
    };
    Set<String> got = new TreeSet<>();
    for (Constructor<?> c : UpdateRobot.class.getDeclaredConstructors()) {
      if (!Modifier.isPrivate(c.getModifiers())) got.add("UpdateRobot" + list(c.getParameterTypes()));
    }
    for (Method m : UpdateRobot.class.getDeclaredMethods()) {
      if (!Modifier.isPrivate(m.getModifiers())) {
        got.add(m.getReturnType() + " " + m.getName() + list(m.getParameterTypes()));
      }
    }
    for (Field f : UpdateRobot.class.getDeclaredFields()) {
      if (!Modifier.isPrivate(f.getModifiers())) {
        got.add(Modifier.toString(f.getModifiers()).replace("public ", "") + " " + f.getType()
            + " " + f.getName());
      }
    }
    Set<String> want = new TreeSet<>(Arrays.asList(wants));
    due("the members " + got + " against " + want, got.equals(want), true);
    due("the class is final", Modifier.isFinal(UpdateRobot.class.getModifiers()), true);
    due("NONE", UpdateRobot.NONE, NONE);
  }

  private static String list(Class<?>[] types) {
    StringBuilder b = new StringBuilder("(");
    for (Class<?> t : types) {
      b.append(b.length() > 1 ? "," : "").append(t.getName());
    }
    return b.append(")").toString();
  }

  private static void newObject() {
    promise = "promise 1";
    UpdateRobot x = new UpdateRobot(3);
    due("has(0)", x.has(0), NONE);
    due("about(0, 0)", x.about(0, 0), NONE);
    due("waiting()", x.waiting(), 0);
    due("open(0)", x.open(0), 0);
    due("run()", x.run(), 0);
    due("tick(0)", x.tick(0), 0);
    int[][] limits = {{Integer.MIN_VALUE, 0}, {-1, 0}, {0, 0}, {1, 1}, {2, 2}, {11, 11}, {12, 12},
      {20, 12}, {21, 12}, {Integer.MAX_VALUE, 12}};
    for (int[] l : limits) {
      UpdateRobot y = robot(l[0], 1, 1, 1, 1, 1, 1, 1, 1, 1, 1, 1, 1);
      for (int n = 0; n < 12; n++) {
        y.newer(n, 0);
      }
      due("run() by limit " + l[0], y.run(), l[1]);
      due("waiting() by limit " + l[0], y.waiting(), 12 - l[1]);
      due("open(1) by limit " + l[0], y.open(1), l[1]);
    }
    UpdateRobot one = robot(5, 0);
    UpdateRobot other = robot(5, 0);
    one.newer(0, 0);
    one.tick(9);
    due("goal(0) of another object", other.goal(0), 0);
    due("tick(0) of another object", other.tick(0), 0);
  }

  private static void names() {
    promise = "promise 2";
    UpdateRobot x = new UpdateRobot(1);
    for (int bad : new int[] {Integer.MIN_VALUE, -1, 3, Integer.MAX_VALUE}) {
      due("name(" + bad + ")", x.name(bad), NONE);
    }
    for (int n = 0; n < 12; n++) {
      due("has before name", x.has(n), NONE);
      due("name(" + n % 3 + ")", x.name(n % 3), n);
      due("has after name", x.has(n), 0);
      due("goal after name", x.goal(n), 0);
      due("chief after name", x.chief(n), n);
    }
    due("a thirteenth name", x.name(0), NONE);
    due("a thirteenth name", x.name(2), NONE);
    due("has(12)", x.has(12), NONE);
  }

  private static void newer() {
    promise = "promise 3";
    UpdateRobot x = robot(1, 0, 0);
    due("newer(2, 0)", x.newer(2, 0), NONE);
    due("newer(-1, 0)", x.newer(-1, 0), NONE);
    for (int bad : new int[] {Integer.MIN_VALUE, -1, 3, Integer.MAX_VALUE}) {
      due("newer(0, " + bad + ")", x.newer(0, bad), NONE);
      due("newer(" + bad + ", 0)", x.newer(bad, 0), NONE);
    }
    for (int v = 1; v < 8; v++) {
      due("newer(0, " + v % 3 + ")", x.newer(0, v % 3), v);
      due("goal(0)", x.goal(0), v);
    }
    due("a ninth version", x.newer(0, 0), NONE);
    due("goal(0) after it", x.goal(0), 7);
    due("newer(1, 2)", x.newer(1, 2), 1);
    x.rule(1, 1, 1, NONE);
    due("goal(1) by a step of kind 2", x.goal(1), 0);
  }

  private static void needs() {
    promise = "promise 4";
    UpdateRobot x = robot(1, 0, 1, 2);
    steps(x, 0, 0, 0);
    steps(x, 1, 0);
    steps(x, 2, 0, 0);
    due("a need of name 3", x.needs(3, 0, 1, 0), false);
    due("a need of name -1", x.needs(-1, 0, 1, 0), false);
    due("a need of version 3", x.needs(0, 3, 1, 0), false);
    due("a need of version -1", x.needs(0, -1, 1, 0), false);
    due("a need for name 3", x.needs(0, 1, 3, 0), false);
    due("a need for name -1", x.needs(0, 1, -1, 0), false);
    due("a need for version -1", x.needs(0, 1, 1, -1), false);
    due("a need for version 8", x.needs(0, 1, 1, 8), false);
    due("a need for itself", x.needs(0, 2, 0, 1), false);
    for (int far : FAR_OFF) {
      due("needs far off", x.needs(far, 1, 1, 1), false);
      due("needs far off", x.needs(0, far, 1, 1), false);
      due("needs far off", x.needs(0, 1, far, 1), false);
      due("needs far off", x.needs(0, 1, 1, far), false);
    }
    due("solve(0) without a need", x.solve(0), 1);
    due("a need at version 0", x.needs(0, 0, 1, 7), true);
    due("a need at version 1", x.needs(0, 1, 1, 7), true);
    due("solve(0) at version 2", x.solve(0), 1);
    due("a need for a version to come", x.needs(0, 2, 1, 7), true);
    due("solve(0)", x.solve(0), -3);
    due("a refused need", x.needs(0, 2, 1, 8), false);
    due("solve(0) after it", x.solve(0), -3);
    due("a need in its place", x.needs(0, 2, 2, 1), true);
    due("solve(0)", x.solve(0), 2);
    due("a need for version 0", x.needs(0, 2, 1, 0), true);
    due("solve(0)", x.solve(0), 1);
  }

  private static void rule() {
    promise = "promise 5";
    UpdateRobot x = robot(1, 0, 0);
    steps(x, 0, 0, 1, 2);
    due("rule of name 2", x.rule(2, 0, 1, 0), false);
    due("rule of name -1", x.rule(-1, 0, 1, 0), false);
    due("allowed -2", x.rule(0, -2, 1, 0), false);
    due("allowed 3", x.rule(0, 3, 1, 0), false);
    due("every 0", x.rule(0, 0, 0, 0), false);
    due("every 1001", x.rule(0, 0, 1001, 0), false);
    due("group -2", x.rule(0, 0, 1, -2), false);
    due("group 4", x.rule(0, 0, 1, 4), false);
    for (int far : FAR_OFF) {
      due("rule far off", x.rule(far, 0, 1, 0), false);
      due("rule far off", x.rule(0, far, 1, 0), false);
      due("rule far off", x.rule(0, 0, far, 0), false);
      due("rule far off", x.rule(0, 0, 1, far), false);
    }
    due("goal(0) after what was refused", x.goal(0), 3);
    int[] goals = {0, 1, 2, 3};
    for (int allowed = -1; allowed < 3; allowed++) {
      due("rule of allowed " + allowed, x.rule(0, allowed, 1000, 3), true);
      due("goal(0) by allowed " + allowed, x.goal(0), goals[allowed + 1]);
    }
    due("chief(1) without a group", x.chief(1), 1);
    for (int group = 0; group < 4; group++) {
      due("rule of group " + group, x.rule(0, 2, 1, group), true);
      due("rule of group " + group, x.rule(1, 2, 1, group), true);
      due("chief(1)", x.chief(1), 0);
    }
    due("rule without a group", x.rule(0, 2, 1, NONE), true);
    due("chief(1)", x.chief(1), 1);
    due("goal(1)", x.goal(1), 0);
  }

  private static void advise() {
    promise = "promise 6";
    UpdateRobot x = robot(0, 0, 0);
    steps(x, 0, 2, 2, 2);
    due("advise(2, 0)", x.advise(2, 0), false);
    due("advise(-1, 0)", x.advise(-1, 0), false);
    due("advise(2, NONE)", x.advise(2, NONE), false);
    due("advise(0, 4)", x.advise(0, 4), false);
    due("advise(1, 1)", x.advise(1, 1), false);
    due("advise(0, -2)", x.advise(0, -2), false);
    for (int far : FAR_OFF) {
      due("advise far off", x.advise(far, 0), false);
      due("advise far off", x.advise(0, far), false);
    }
    x.rule(0, -1, 1, NONE);
    due("goal(0) without an advisory", x.goal(0), 0);
    due("advise(0, 1)", x.advise(0, 1), true);
    due("goal(0)", x.goal(0), 2);
    due("advise(0, 9)", x.advise(0, 9), false);
    due("goal(0) after what was refused", x.goal(0), 2);
    due("advise(0, 0)", x.advise(0, 0), true);
    due("goal(0)", x.goal(0), 1);
    due("advise(0, 3)", x.advise(0, 3), true);
    due("goal(0) with nothing behind", x.goal(0), 0);
    due("advise(0, NONE)", x.advise(0, NONE), true);
    due("goal(0)", x.goal(0), 0);
    due("run()", x.run(), 0);
    hitNoMore();
  }

  /** A name that is above its advisory is due, and bound by the limit, like any other. */
  private static void hitNoMore() {
    UpdateRobot x = robot(0, 0);
    steps(x, 0, 0, 0, 0);
    x.rule(0, -1, 1, NONE);
    x.advise(0, 0);
    due("run() when hit", x.run(), 1);
    due("pass(0, true)", x.pass(0, true), 1);
    x.rule(0, 2, 1, NONE);
    due("run() at once, hit no more", x.run(), 0);
    due("waiting(): it isn't due", x.waiting(), 0);
    x.tick(1);
    due("run() by limit 0, hit no more", x.run(), 0);
    due("waiting()", x.waiting(), 1);
    x.advise(0, 1);
    due("run() when hit at what it has", x.run(), 1);
    due("about(1, 4)", x.about(1, 4), 1);
  }

  private static void has() {
    promise = "promise 7";
    UpdateRobot x = robot(2, 0, 1);
    steps(x, 0, 0, 0);
    for (int bad : new int[] {Integer.MIN_VALUE, -1, 2, 12, Integer.MAX_VALUE}) {
      due("has(" + bad + ")", x.has(bad), NONE);
    }
    due("has(0)", x.has(0), 0);
    x.run();
    due("has(0) while it is only proposed", x.has(0), 0);
    due("pass(0, true)", x.pass(0, true), 1);
    due("has(0) after landing", x.has(0), 2);
    due("has(1)", x.has(1), 0);
  }

  private static void goal() {
    promise = "promise 8";
    UpdateRobot x = robot(5, 0);
    for (int bad : new int[] {Integer.MIN_VALUE, -1, 1, 12, Integer.MAX_VALUE}) {
      due("goal(" + bad + ")", x.goal(bad), NONE);
    }
    steps(x, 0, 0, 1, 0, 2, 0);
    due("goal(0)", x.goal(0), 5);
    x.rule(0, 1, 1, NONE);
    due("goal(0) by 1", x.goal(0), 3);
    x.rule(0, 0, 1, NONE);
    due("goal(0) by 0: a lesser kind behind a greater one is not reached", x.goal(0), 1);
    x.advise(0, 0);
    due("goal(0) when hit and above the advisory", x.goal(0), 1);
    x.advise(0, 1);
    due("goal(0) when hit and just at the advisory", x.goal(0), 2);
    x.advise(0, 4);
    due("goal(0) when hit and below the advisory", x.goal(0), 5);
    x.advise(0, 5);
    due("goal(0) when hit and nothing is behind", x.goal(0), 1);
    x.newer(0, 2);
    due("goal(0) when something came behind", x.goal(0), 6);
    x.advise(0, 1);
    x.run();
    x.pass(0, true);
    due("has(0)", x.has(0), 2);
    due("goal(0) from 2, hit no more", x.goal(0), 3);
    x.advise(0, 2);
    due("goal(0) from 2, hit at just what it has", x.goal(0), 3);
    x.rule(0, -1, 1, NONE);
    due("goal(0) from 2, ignored but hit", x.goal(0), 3);
    x.advise(0, 1);
    due("goal(0) from 2, ignored, not hit", x.goal(0), 2);
  }

  private static void chief() {
    promise = "promise 9";
    UpdateRobot x = robot(1, 1, 0, 1, 0, 1);
    for (int bad : new int[] {Integer.MIN_VALUE, -1, 5, 12, Integer.MAX_VALUE}) {
      due("chief(" + bad + ")", x.chief(bad), NONE);
    }
    for (int n = 0; n < 5; n++) {
      due("chief without a group", x.chief(n), n);
      x.rule(n, 2, 1, 2);
    }
    int[] ofGroup = {0, 1, 0, 1, 0};
    for (int n = 0; n < 5; n++) {
      due("chief(" + n + ") by repositories", x.chief(n), ofGroup[n]);
    }
    x.rule(0, 2, 1, 3);
    due("chief(0) in another group", x.chief(0), 0);
    due("chief(2)", x.chief(2), 2);
    due("chief(4)", x.chief(4), 2);
    x.rule(2, 2, 1, NONE);
    due("chief(2) alone", x.chief(2), 2);
    due("chief(4)", x.chief(4), 4);
  }

  private static void solve() {
    promise = "promise 10";
    UpdateRobot x = robot(5, 0, 0, 0, 1, 2);
    for (int bad : new int[] {Integer.MIN_VALUE, -1, 5, 12, Integer.MAX_VALUE}) {
      due("solve(" + bad + ")", x.solve(bad), NONE);
    }
    due("solve(0) with nothing to do", x.solve(0), 0);
    steps(x, 0, 0);
    steps(x, 1, 0, 1, 0);
    steps(x, 2, 0);
    steps(x, 3, 2, 2);
    due("solve(0)", x.solve(0), 1);
    x.rule(0, 2, 1, 1);
    x.rule(1, 2, 1, 1);
    due("solve(0) of a group", x.solve(0), 2);
    due("solve(1), no chief", x.solve(1), NONE);
    x.needs(1, 3, 3, 1);
    due("solve(0) with what is needed in another repository", x.solve(0), 3);
    x.needs(3, 1, 2, 1);
    due("solve(0) with what that needs", x.solve(0), 4);
    x.needs(2, 1, 3, 2);
    due("solve(0) with a need raised twice", x.solve(0), 4);
    x.rule(3, 1, 1, NONE);
    due("solve(0) when a step is not allowed", x.solve(0), -5);
    x.advise(3, 1);
    due("goal(3) as it is forced", x.goal(3), 2);
    due("solve(0): an advisory does not let others raise it", x.solve(0), -5);
    due("solve(3): its own unit is forced", x.solve(3), 1);
    due("run() after solves alone", x.run(), 1);
    due("has(0)", x.has(0), 0);
    solveInItsOrder();
    solveFromWhatIsHad();
  }

  /** What is needed depends on how far the needing ones have been raised before. */
  private static void solveInItsOrder() {
    UpdateRobot x = robot(9, 0, 0, 0, 0);
    for (int n = 0; n < 4; n++) {
      steps(x, n, 0, 0, 0);
    }
    x.rule(1, 0, 1, NONE);
    x.needs(3, 3, 2, 1);
    x.needs(2, 1, 1, 2);
    x.needs(1, 2, 2, 2);
    due("solve(3): round and round till all is met", x.solve(3), 3);
    x.run();
    dueTargets(x, 3, NONE, 2, 2, 3);
    x.needs(2, 2, 1, 7);
    due("solve(3): the culprit is the one that lacks", x.solve(3), -3);
    x.needs(2, 1, 0, 5);
    due("solve(3): the first that lacks is 0", x.solve(3), -2);
    UpdateRobot y = robot(9, 0, 0, 0, 0);
    for (int n = 0; n < 4; n++) {
      steps(y, n, 0, 0);
      y.rule(n, 2, 1, n == 0 || n == 3 ? 0 : NONE);
    }
    y.needs(0, 2, 1, 1);
    y.needs(3, 2, 1, 2);
    y.needs(1, 1, 2, 7);
    due("solve(0): the least first, so 1 is at 1 before it is at 2", y.solve(0), -4);
    y.needs(0, 2, 1, 0);
    due("solve(0): 1 goes to 2 at once", y.solve(0), 3);
  }

  private static void solveFromWhatIsHad() {
    UpdateRobot x = robot(9, 0, 0, 0);
    steps(x, 0, 2, 0);
    steps(x, 1, 0);
    x.needs(1, 1, 0, 2);
    x.rule(0, 1, 1, NONE);
    due("solve(1) over a step that isn't allowed", x.solve(1), -2);
    x.advise(0, 0);
    due("run()", x.run(), 1);
    due("pass(0, true)", x.pass(0, true), 1);
    due("has(0)", x.has(0), 1);
    due("solve(1) when that step is behind", x.solve(1), 2);
    x.rule(0, -1, 1, NONE);
    due("solve(1) when it is ignored", x.solve(1), -2);
    x.needs(1, 1, 0, 1);
    due("solve(1) when it has enough", x.solve(1), 1);
    x.needs(1, 0, 2, 7);
    due("solve(1) whatever is needed at what it has", x.solve(1), 1);
    x.needs(0, 1, 2, 7);
    due("solve(1) whatever those need that stay", x.solve(1), 1);
  }

  private static void tick() {
    promise = "promise 11";
    UpdateRobot x = new UpdateRobot(1);
    due("tick(0)", x.tick(0), 0);
    due("tick(7)", x.tick(7), 7);
    for (int bad : new int[] {Integer.MIN_VALUE, -1, 100001, Integer.MAX_VALUE}) {
      due("tick(" + bad + ")", x.tick(bad), NONE);
    }
    due("tick(0)", x.tick(0), 7);
    due("tick(100000)", x.tick(100000), 100007);
    due("tick(1)", x.tick(1), 100008);
    UpdateRobot late = new UpdateRobot(1);
    for (int i = 1; i <= 10000; i++) {
      late.tick(100000);
    }
    due("the clock at its end", late.tick(0), 1000000000);
    due("tick(1) above it", late.tick(1), NONE);
    due("tick(100000) above it", late.tick(100000), NONE);
  }

  private static void runByFirstRule() {
    UpdateRobot x = robot(5, 0);
    steps(x, 0, 2);
    due("run()", x.run(), 1);
    x.newer(0, 2);
    due("run() at once", x.run(), 0);
    x.tick(1);
    due("run() after 1", x.run(), 1);
  }

  private static void runByDueness() {
    promise = "promise 12, dueness";
    runByFirstRule();
    UpdateRobot x = robot(5, 0, 0, 0);
    steps(x, 0, 0);
    x.rule(0, 2, 10, 0);
    x.rule(1, 2, 4, 0);
    x.rule(2, 2, 1000, NONE);
    due("run() when new", x.run(), 1);
    x.newer(0, 0);
    x.newer(2, 0);
    due("run() at once", x.run(), 0);
    x.tick(3);
    due("run() after 3", x.run(), 0);
    x.tick(1);
    due("run() after 4, the least of the group", x.run(), 1);
    x.newer(0, 0);
    x.tick(3);
    due("run() 3 after that", x.run(), 0);
    x.rule(1, 2, 4, NONE);
    due("run(): 1 is a chief of its own, but has nothing", x.run(), 0);
    x.tick(6);
    due("run() 9 after that", x.run(), 0);
    x.tick(1);
    due("run() 10 after that", x.run(), 1);
    x.newer(0, 0);
    x.advise(0, 0);
    due("run() at once, when hit", x.run(), 1);
    x.advise(0, NONE);
    x.newer(0, 0);
    x.tick(985);
    due("run() at 999", x.run(), 1);
    x.tick(1);
    due("run() at 1000", x.run(), 1);
    due("about(5, 1)", x.about(5, 1), 2);
    dueStates(x, REPLACED, REPLACED, REPLACED, REPLACED, OPEN, OPEN);
    UpdateRobot y = robot(5, 0, 0);
    y.rule(0, 2, 50, 1);
    y.rule(1, 2, 50, 1);
    due("run() with nothing, but due", y.run(), 0);
    y.newer(1, 0);
    due("run() at once", y.run(), 0);
    y.rule(1, 2, 50, NONE);
    due("run() told by a chief that wasn't one", y.run(), 1);
    y.advise(1, 1);
    y.tick(49);
    due("run() when hit: due, but it stays", y.run(), 0);
    y.advise(1, NONE);
    y.newer(1, 0);
    y.newer(0, 0);
    y.tick(1);
    due("run(): being due when hit counts for 1, 0 is due by its own", y.run(), 1);
    due("about(1, 1)", y.about(1, 1), 0);
    y.tick(49);
    due("run() 50 after", y.run(), 1);
    due("about(2, 1)", y.about(2, 1), 1);
  }

  private static void runByOutcome() {
    promise = "promise 12, outcome";
    UpdateRobot x = robot(1, 0, 0);
    steps(x, 0, 0, 1);
    due("run()", x.run(), 1);
    x.tick(1);
    due("run(): the same stays", x.run(), 0);
    dueStates(x, OPEN);
    x.rule(0, -1, 1, NONE);
    x.tick(1);
    due("run(): nothing to do", x.run(), 0);
    dueStates(x, ABANDONED);
    x.rule(0, 2, 1, NONE);
    x.tick(1);
    due("run(): an abandoned one does not hinder", x.run(), 1);
    x.needs(0, 2, 1, 1);
    x.tick(1);
    due("run(): no way", x.run(), 0);
    dueStates(x, ABANDONED, ABANDONED);
    x.rule(0, 0, 1, NONE);
    x.tick(1);
    due("run()", x.run(), 1);
    x.needs(0, 2, 1, 0);
    x.rule(0, 2, 1, NONE);
    x.tick(1);
    due("run(): another is better", x.run(), 1);
    dueStates(x, ABANDONED, ABANDONED, REPLACED, OPEN);
    dueTargets(x, 2, 1, NONE);
    dueTargets(x, 3, 2, NONE);
    due("about(3, 3)", x.about(3, 3), 6);
    runWithAnother();
    runAfterFailing();
  }

  /** What lands elsewhere changes nothing of what an open one would raise. */
  private static void runWithAnother() {
    UpdateRobot x = robot(2, 0, 0);
    steps(x, 0, 0);
    steps(x, 1, 0);
    due("run()", x.run(), 2);
    due("pass(0, true)", x.pass(0, true), 1);
    x.tick(1);
    due("run(): the other one stays", x.run(), 0);
    dueStates(x, LANDED, OPEN);
    due("name(0)", x.name(0), 2);
    x.tick(1);
    due("run(): and with a new name too", x.run(), 0);
    dueStates(x, LANDED, OPEN);
    due("target(1, 2)", x.target(1, 2), NONE);
  }

  private static void runAfterFailing() {
    UpdateRobot x = robot(3, 0);
    steps(x, 0, 0, 1);
    x.run();
    x.pass(0, false);
    x.tick(1);
    due("run(): never the same twice", x.run(), 0);
    due("waiting(): that is no waiting", x.waiting(), 0);
    x.rule(0, 0, 1, NONE);
    x.tick(1);
    due("run(): another one", x.run(), 1);
    x.rule(0, 2, 1, NONE);
    x.tick(1);
    due("run(): back to what failed", x.run(), 0);
    dueStates(x, FAILED, ABANDONED);
    x.rule(0, 0, 1, NONE);
    x.tick(1);
    due("run(): what was abandoned may come again", x.run(), 1);
    x.pass(2, false);
    x.rule(0, 2, 1, NONE);
    x.tick(1);
    due("run(): only the latest that failed counts", x.run(), 1);
    dueStates(x, FAILED, ABANDONED, FAILED, OPEN);
    dueTargets(x, 3, 2);
    UpdateRobot y = robot(3, 0, 0);
    steps(y, 0, 0);
    steps(y, 1, 0);
    y.needs(0, 1, 1, 1);
    due("run()", y.run(), 2);
    y.pass(0, false);
    y.tick(1);
    due("run(): what failed is another chief's", y.run(), 0);
    dueStates(y, FAILED, OPEN);
    y.advise(0, 0);
    due("run(): hit or not, it failed", y.run(), 0);
    due("waiting()", y.waiting(), 0);
  }

  private static void runByLimit() {
    promise = "promises 12 and 13";
    UpdateRobot x = robot(1, 0, 0, 0, 1);
    for (int n = 0; n < 4; n++) {
      steps(x, n, 0);
    }
    due("waiting() before a run", x.waiting(), 0);
    x.rule(1, 2, 10, NONE);
    due("run()", x.run(), 2);
    due("waiting()", x.waiting(), 2);
    due("about(0, 1)", x.about(0, 1), 0);
    due("about(1, 1)", x.about(1, 1), 3);
    x.pass(0, true);
    x.tick(1);
    due("run(): 1 was due, though it waited", x.run(), 1);
    due("about(2, 1)", x.about(2, 1), 2);
    due("waiting(): 1 isn't due", x.waiting(), 0);
    x.tick(9);
    due("run(): no room for 1", x.run(), 0);
    due("waiting()", x.waiting(), 1);
    due("waiting() again", x.waiting(), 1);
    x.newer(2, 0);
    x.advise(1, 0);
    x.tick(1);
    due("run(): 1 is hit, 2 is replaced", x.run(), 2);
    due("waiting()", x.waiting(), 0);
    due("open(0)", x.open(0), 2);
    x.advise(1, NONE);
    x.newer(1, 0);
    x.newer(0, 0);
    x.tick(10);
    due("run(): a replacement asks for no room, a new one does", x.run(), 1);
    due("waiting()", x.waiting(), 1);
    due("open(0)", x.open(0), 2);
    due("pass(4, false)", x.pass(4, false), 0);
    x.tick(10);
    due("run(): one is still too many", x.run(), 0);
    due("waiting()", x.waiting(), 1);
    x.rule(1, -1, 1, NONE);
    x.tick(1);
    due("run(): 1 is abandoned, but only behind 0", x.run(), 0);
    due("waiting()", x.waiting(), 1);
    due("open(0)", x.open(0), 0);
    x.tick(1);
    due("run()", x.run(), 1);
    due("waiting()", x.waiting(), 0);
    UpdateRobot y = robot(0, 0, 0, 0);
    y.rule(1, 2, 1, 2);
    y.rule(2, 2, 1, 2);
    y.newer(1, 0);
    y.newer(2, 0);
    due("run() by limit 0", y.run(), 0);
    due("waiting(): a unit, not its names", y.waiting(), 1);
    y.advise(2, 0);
    due("run() when one of the group is hit", y.run(), 1);
    dueTargets(y, 0, NONE, 1, 1);
  }

  private static void sixtyProposals() {
    promise = "promise 12, sixty";
    UpdateRobot x = robot(20, 0, 0, 0, 0, 1, 1, 1, 1, 2, 2, 2, 2);
    for (int round = 0; round < 5; round++) {
      for (int n = 0; n < 12; n++) {
        x.newer(n, 0);
      }
      x.tick(1);
      due("run() of round " + round, x.run(), 12);
      due("waiting()", x.waiting(), 0);
    }
    due("about(59, 0)", x.about(59, 0), OPEN);
    due("about(59, 1)", x.about(59, 1), 11);
    due("about(60, 0)", x.about(60, 0), NONE);
    due("pass(48, true)", x.pass(48, true), 1);
    x.newer(0, 0);
    x.newer(1, 0);
    x.rule(2, -1, 1, NONE);
    x.advise(3, 0);
    x.newer(3, 0);
    x.tick(1);
    due("run(): no more than 60", x.run(), 0);
    due("waiting(): a new one, one to replace, one that is hit", x.waiting(), 3);
    due("about(60, 0)", x.about(60, 0), NONE);
    due("about(49, 0): what can't be replaced stays", x.about(49, 0), OPEN);
    due("about(50, 0): nothing to do", x.about(50, 0), ABANDONED);
    due("about(51, 0)", x.about(51, 0), OPEN);
    due("about(52, 0)", x.about(52, 0), OPEN);
    due("pass(49, true)", x.pass(49, true), 1);
    due("has(1)", x.has(1), 5);
  }

  private static void about() {
    promise = "promise 14";
    UpdateRobot x = robot(4, 0, 0, 1);
    steps(x, 1, 0);
    x.rule(0, 2, 1, 3);
    x.rule(1, 2, 1, 3);
    x.tick(17);
    x.run();
    int[] wants = {OPEN, 0, 0, 17, 0};
    for (int what = 0; what < 5; what++) {
      due("about(0, " + what + ")", x.about(0, what), wants[what]);
    }
    for (int bad : new int[] {Integer.MIN_VALUE, -1, 5, Integer.MAX_VALUE}) {
      due("about(0, " + bad + ")", x.about(0, bad), NONE);
    }
    for (int bad : new int[] {Integer.MIN_VALUE, -1, 1, 60, Integer.MAX_VALUE}) {
      due("about(" + bad + ", 0)", x.about(bad, 0), NONE);
    }
    x.advise(1, 0);
    due("about(0, 4): as it was then", x.about(0, 4), 0);
    steps(x, 1, 0);
    x.tick(3);
    x.run();
    due("about(0, 0)", x.about(0, 0), REPLACED);
    due("about(1, 3)", x.about(1, 3), 20);
    due("about(1, 4)", x.about(1, 4), 1);
    x.advise(1, NONE);
    due("about(1, 4): as it was then", x.about(1, 4), 1);
    x.pass(1, true);
    due("about(1, 0)", x.about(1, 0), LANDED);
    x.newer(2, 0);
    x.tick(1);
    x.run();
    x.pass(2, false);
    due("about(2, 0)", x.about(2, 0), FAILED);
    due("about(2, 1)", x.about(2, 1), 2);
    due("about(0, 0) still", x.about(0, 0), REPLACED);
  }

  private static void target() {
    promise = "promise 15";
    UpdateRobot x = robot(4, 0, 0, 1);
    steps(x, 0, 0, 0);
    steps(x, 1, 0, 0);
    x.needs(0, 2, 1, 1);
    x.rule(1, 2, 9, NONE);
    due("target(0, 0) before", x.target(0, 0), NONE);
    x.run();
    dueTargets(x, 0, 2, 1, NONE);
    dueTargets(x, 1, NONE, 2, NONE);
    for (int bad : new int[] {Integer.MIN_VALUE, -1, 3, 12, Integer.MAX_VALUE}) {
      due("target(0, " + bad + ")", x.target(0, bad), NONE);
    }
    for (int bad : new int[] {Integer.MIN_VALUE, -1, 2, 60, Integer.MAX_VALUE}) {
      due("target(" + bad + ", 0)", x.target(bad, 0), NONE);
    }
    x.pass(0, true);
    dueTargets(x, 0, 2, 1, NONE);
    dueTargets(x, 1, NONE, 2, NONE);
    x.pass(1, false);
    dueTargets(x, 1, NONE, 2, NONE);
  }

  private static void pass() {
    promise = "promise 16";
    UpdateRobot x = robot(4, 0, 1, 2);
    steps(x, 0, 0);
    steps(x, 1, 0, 0);
    x.needs(0, 1, 1, 1);
    x.rule(1, -1, 1, NONE);
    due("pass(0, true) before", x.pass(0, true), NONE);
    x.rule(1, 0, 1, NONE);
    due("run()", x.run(), 2);
    for (int bad : new int[] {Integer.MIN_VALUE, -1, 2, 60, Integer.MAX_VALUE}) {
      due("pass(" + bad + ", true)", x.pass(bad, true), NONE);
      due("pass(" + bad + ", false)", x.pass(bad, false), NONE);
    }
    due("pass(0, true)", x.pass(0, true), 2);
    due("has(0)", x.has(0), 1);
    due("has(1)", x.has(1), 1);
    due("has(2)", x.has(2), 0);
    due("pass(0, true) again", x.pass(0, true), NONE);
    due("pass(0, false) again", x.pass(0, false), NONE);
    dueStates(x, LANDED, OPEN);
    due("about(1, 2): redone", x.about(1, 2), 1);
    due("pass(1, false)", x.pass(1, false), 0);
    due("pass(1, true) when failed", x.pass(1, true), NONE);
    due("has(1) when failed", x.has(1), 1);
    dueStates(x, LANDED, FAILED);
    redone();
    redoneTwice();
  }

  /** Names 1 to 5 all raise name 0 by need; name 6 does not. */
  private static UpdateRobot sixOverOne() {
    UpdateRobot x = robot(20, 0, 1, 1, 1, 1, 1, 1);
    for (int n = 0; n < 7; n++) {
      steps(x, n, 0, 0);
    }
    for (int n = 1; n < 6; n++) {
      x.needs(n, 2, 0, n == 5 ? 2 : 1);
    }
    x.tick(30);
    due("run()", x.run(), 7);
    return x;
  }

  private static void redone() {
    UpdateRobot x = sixOverOne();
    x.needs(2, 2, 0, 7);
    x.needs(6, 2, 0, 7);
    x.rule(3, 2, 1, 0);
    x.rule(4, 2, 1, 0);
    x.rule(5, 0, 1, NONE);
    x.needs(5, 2, 3, 1);
    x.tick(5);
    due("pass(1, true)", x.pass(1, true), 2);
    due("has(0)", x.has(0), 1);
    dueStates(x, OPEN, LANDED, ABANDONED, OPEN, ABANDONED, OPEN, OPEN);
    dueTargets(x, 0, 2, NONE, NONE, NONE, NONE, NONE, NONE);
    dueTargets(x, 1, 1, 2, NONE, NONE, NONE, NONE, NONE);
    dueTargets(x, 2, 1, NONE, 2, NONE, NONE, NONE, NONE);
    dueTargets(x, 3, NONE, NONE, NONE, 2, 2, NONE, NONE);
    dueTargets(x, 4, 1, NONE, NONE, NONE, 2, NONE, NONE);
    dueTargets(x, 5, NONE, NONE, NONE, 1, NONE, 2, NONE);
    dueTargets(x, 6, NONE, NONE, NONE, NONE, NONE, NONE, 2);
    int[] often = {1, 0, 0, 1, 0, 1, 0};
    for (int p = 0; p < often.length; p++) {
      due("about(" + p + ", 2)", x.about(p, 2), often[p]);
      due("about(" + p + ", 3)", x.about(p, 3), 30);
    }
    due("open(0)", x.open(0), 1);
    due("open(1)", x.open(1), 3);
  }

  private static void redoneTwice() {
    UpdateRobot x = sixOverOne();
    due("pass(1, true)", x.pass(1, true), 2);
    due("pass(5, true)", x.pass(5, true), 2);
    due("has(0)", x.has(0), 2);
    dueStates(x, ABANDONED, LANDED, OPEN, OPEN, OPEN, LANDED, OPEN);
    due("about(0, 2): redone once and stayed, then there was nothing", x.about(0, 2), 1);
    due("about(2, 2): redone once, then 0 was none of its own", x.about(2, 2), 1);
    due("about(5, 2)", x.about(5, 2), 1);
    due("pass(0, true) of an abandoned one", x.pass(0, true), NONE);
    due("pass(2, true)", x.pass(2, true), 1);
    x.tick(1);
    due("run(): all that is open stays", x.run(), 0);
    dueStates(x, ABANDONED, LANDED, LANDED, OPEN, OPEN, LANDED, OPEN);
    redoneToWhatFailed();
  }

  /** An open one that has the targets already stays, before what failed is looked at. */
  private static void redoneToWhatFailed() {
    UpdateRobot x = robot(5, 0, 0);
    steps(x, 0, 0, 0);
    steps(x, 1, 0);
    due("run()", x.run(), 2);
    due("pass(0, false)", x.pass(0, false), 0);
    x.needs(0, 2, 1, 1);
    x.tick(1);
    due("run(): with what it needs it isn't the same", x.run(), 1);
    due("pass(1, true)", x.pass(1, true), 1);
    dueTargets(x, 2, 2, NONE);
    x.tick(1);
    due("run()", x.run(), 0);
    dueStates(x, FAILED, LANDED, OPEN);
  }

  private static void open() {
    promise = "promise 17";
    UpdateRobot x = robot(4, 0, 1, 1, 2);
    for (int bad : new int[] {Integer.MIN_VALUE, -1, 3, Integer.MAX_VALUE}) {
      due("open(" + bad + ")", x.open(bad), NONE);
    }
    for (int n = 0; n < 4; n++) {
      steps(x, n, 0);
    }
    x.needs(0, 1, 3, 1);
    x.rule(3, -1, 1, NONE);
    x.rule(3, 2, 1, NONE);
    due("run()", x.run(), 4);
    due("open(0)", x.open(0), 1);
    due("open(1)", x.open(1), 2);
    due("open(2)", x.open(2), 1);
    x.pass(1, false);
    due("open(1)", x.open(1), 1);
    x.rule(2, 2, 1, 0);
    x.rule(1, 2, 1, 0);
    due("open(1), though 2 is no chief any more", x.open(1), 1);
    x.tick(1);
    due("run(): the group is 1's, with other targets", x.run(), 1);
    due("open(1)", x.open(1), 2);
    due("pass(0, true)", x.pass(0, true), 2);
    due("open(0)", x.open(0), 0);
    due("open(2): 3 has nothing to do any more", x.open(2), 0);
    due("pass(4, true)", x.pass(4, true), 2);
    due("open(1): 2 is no chief any more", x.open(1), 0);
    due("about(2, 0)", x.about(2, 0), ABANDONED);
  }

  public static void main(String[] args) {
    face();
    newObject();
    names();
    newer();
    needs();
    rule();
    advise();
    has();
    goal();
    chief();
    solve();
    tick();
    runByDueness();
    runByOutcome();
    runByLimit();
    sixtyProposals();
    about();
    target();
    pass();
    open();
    System.out.println(wrong == 0 ? "all answers are as due" : wrong + " answers are not as due");
    if (wrong != 0) System.exit(1);
  }
}
