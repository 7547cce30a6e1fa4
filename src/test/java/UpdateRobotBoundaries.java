/**
 * The edges, sentence by sentence of the document: the last that still counts and the first that
 * does not, what is empty and what is full. That a refused call changes nothing is the part of
 * UpdateRobotRefusals.
 */
public final class UpdateRobotBoundaries {
  private static final int NONE = -1;
  private static final int OPEN = 0;
  private static final int LANDED = 1;
  private static final int REPLACED = 2;
  private static final int ABANDONED = 3;
  private static final int FAILED = 4;
  private static final int LOW = Integer.MIN_VALUE;
  private static final int HIGH = Integer.MAX_VALUE;

  private static String sentence = "";
  private static int wrong = 0;

  private static void says(String words) {
    sentence = words;
  }

  private static void due(String call, long got, long want) {
    if (got != want) {
      wrong++;
      System.out.println(sentence + ": " + call + " answered " + got + ", due is " + want);
    }
  }

  private static void due(String call, boolean got, boolean want) {
    due(call, got ? 1 : 0, want ? 1 : 0);
  }

  private static UpdateRobot robot(int limit, int... repositories) {
    UpdateRobot x = new UpdateRobot(limit);
    for (int repository : repositories) {
      x.name(repository);
    }
    return x;
  }

  private static UpdateRobot twelve(int limit) {
    return robot(limit, 0, 0, 0, 0, 0, 0, 0, 0, 0, 0, 0, 0);
  }

  private static void steps(UpdateRobot x, int name, int... kinds) {
    for (int kind : kinds) {
      x.newer(name, kind);
    }
  }

  private static void stepOfEach(UpdateRobot x, int names) {
    for (int n = 0; n < names; n++) {
      x.newer(n, 0);
    }
  }

  private static int runAfter(UpdateRobot x, int ticks) {
    x.tick(ticks);
    return x.run();
  }

  private static void dueTargets(UpdateRobot x, int proposal, int... wants) {
    for (int name = 0; name < wants.length; name++) {
      due("target(" + proposal + ", " + name + ")", x.target(proposal, name), wants[name]);
    }
  }

  private static void dueStates(UpdateRobot x, int... wants) {
    for (int p = 0; p < wants.length; p++) {
      due("about(" + p + ", 0)", x.about(p, 0), wants[p]);
    }
    due("about(" + wants.length + ", 0)", x.about(wants.length, 0), NONE);
  }

  // ---- Terms: names, versions, kinds, needs ----

  private static void atMostTwelveNames() {
    says("Terms: NAMES, at most 12, numbered from 0");
    UpdateRobot x = new UpdateRobot(1);
    due("has(0) without names", x.has(0), NONE);
    for (int n = 0; n < 12; n++) {
      due("name " + n, x.name(n % 3), n);
    }
    for (int repository = 0; repository < 3; repository++) {
      due("a name too many", x.name(repository), NONE);
    }
    due("has(12)", x.has(12), NONE);
    due("newer(11, 0) of the last one", x.newer(11, 0), 1);
    due("needs(11, 1, 0, 7)", x.needs(11, 1, 0, 7), true);
    due("solve(11)", x.solve(11), -2);
    due("rule(11, 2, 1, 0)", x.rule(11, 2, 1, 0), true);
    due("advise(11, 0)", x.advise(11, 0), true);
    due("needs(0, 0, 11, 7)", x.needs(0, 0, 11, 7), true);
    due("newer(12, 0)", x.newer(12, 0), NONE);
  }

  private static void threeRepositories() {
    says("Terms: a REPOSITORY (0 .. 2); promise 2: NONE if there is no such REPOSITORY");
    UpdateRobot x = new UpdateRobot(1);
    for (int bad : new int[] {LOW, -2, -1, 3, 4, HIGH}) {
      due("name(" + bad + ")", x.name(bad), NONE);
    }
    for (int good = 0; good < 3; good++) {
      due("open(" + good + ") when there is nothing", x.open(good), 0);
      due("name(" + good + ")", x.name(good), good);
      x.newer(good, 0);
    }
    due("run(), one in each", x.run(), 3);
    for (int good = 0; good < 3; good++) {
      due("open(" + good + ")", x.open(good), 1);
    }
  }

  private static void atMostEightVersions() {
    says("Terms: VERSIONS, at most 8; promise 3: NONE if it has 8");
    UpdateRobot x = robot(1, 0, 0);
    for (int version = 1; version <= 7; version++) {
      due("needs of a version before it is there", x.needs(0, version, 1, 0), false);
      due("advise of a version before it is there", x.advise(0, version), false);
      due("newer(0, 0)", x.newer(0, 0), version);
      due("needs of the version", x.needs(0, version, 1, 0), true);
      due("advise of the version", x.advise(0, version), true);
    }
    for (int kind = 0; kind < 3; kind++) {
      due("a version too many", x.newer(0, kind), NONE);
    }
    due("needs of version 8", x.needs(0, 8, 1, 0), false);
    due("advise of version 8", x.advise(0, 8), false);
    due("newer(1, 0): each has its own", x.newer(1, 0), 1);
    due("goal(0)", x.goal(0), 7);
    due("run()", x.run(), 1);
    due("target(0, 0)", x.target(0, 0), 7);
    due("pass(0, true)", x.pass(0, true), 1);
    due("has(0), the last of all", x.has(0), 7);
    due("goal(0), the last of all", x.goal(0), 7);
    due("solve(0), the last of all", x.solve(0), 0);
    due("newer(0, 0) from the last of all", x.newer(0, 0), NONE);
  }

  private static void versionZeroFromTheBeginning() {
    says("Terms: 0 is there from the beginning, and HAD at first");
    UpdateRobot x = robot(1, 0, 0);
    due("has(0)", x.has(0), 0);
    due("goal(0)", x.goal(0), 0);
    due("needs(0, 0, 1, 0)", x.needs(0, 0, 1, 0), true);
    due("needs(0, 1, 1, 0)", x.needs(0, 1, 1, 0), false);
    due("advise(0, 0)", x.advise(0, 0), true);
    due("advise(0, 1)", x.advise(0, 1), false);
    due("solve(0)", x.solve(0), 0);
    due("newer(0, 2)", x.newer(0, 2), 1);
    due("has(0) still", x.has(0), 0);
  }

  private static void threeKinds() {
    says("Terms: a KIND 0 .. 2; promise 3: no such KIND");
    UpdateRobot x = robot(1, 0);
    for (int bad : new int[] {LOW, -2, -1, 3, 4, HIGH}) {
      due("newer(0, " + bad + ")", x.newer(0, bad), NONE);
    }
    for (int kind = 0; kind < 3; kind++) {
      due("newer(0, " + kind + ")", x.newer(0, kind), kind + 1);
    }
  }

  private static void atMostOneNeedEach() {
    says("Terms: NEED another NAME at a VERSION or more (at most one each); promise 4: in place");
    UpdateRobot x = robot(9, 0, 0, 0);
    steps(x, 0, 0, 0);
    steps(x, 1, 0, 0);
    steps(x, 2, 0, 0);
    x.needs(0, 2, 1, 1);
    due("solve(0)", x.solve(0), 2);
    x.needs(0, 2, 2, 7);
    due("solve(0): 2 is needed in its place", x.solve(0), -4);
    x.needs(0, 2, 1, 7);
    due("solve(0): 1 is needed in its place", x.solve(0), -3);
    x.needs(0, 2, 1, 2);
    due("solve(0): less is needed in its place", x.solve(0), 2);
    x.needs(0, 1, 2, 7);
    due("solve(0): another version has a need of its own", x.solve(0), 2);
    due("run()", x.run(), 3);
    dueTargets(x, 0, 2, 2, NONE);
  }

  private static void neededVersions() {
    says("Promise 4: a VERSION (0 .. 7), which need not be there yet");
    UpdateRobot x = robot(9, 0, 0);
    x.newer(0, 0);
    for (int bad : new int[] {LOW, -2, -1, 8, 9, HIGH}) {
      due("needs(0, 1, 1, " + bad + ")", x.needs(0, 1, 1, bad), false);
    }
    for (int least = 0; least < 8; least++) {
      due("needs(0, 1, 1, " + least + ")", x.needs(0, 1, 1, least), true);
      due("solve(0) by " + least + ", when 1 has only 0", x.solve(0), least == 0 ? 1 : -3);
    }
    for (int version = 1; version < 8; version++) {
      due("solve(0) before version " + version + " of 1", x.solve(0), -3);
      x.newer(1, 0);
    }
    due("solve(0) when 7 is there", x.solve(0), 2);
  }

  private static void needsOfNoneSuch() {
    says("Promise 4: false if there are none such, or both are one");
    UpdateRobot x = robot(9, 0, 0, 0);
    steps(x, 0, 0, 0);
    for (int bad : new int[] {LOW, -2, -1, 3, 11, 12, HIGH}) {
      due("needs(" + bad + ", 0, 1, 0)", x.needs(bad, 0, 1, 0), false);
      due("needs(0, 0, " + bad + ", 0)", x.needs(0, 0, bad, 0), false);
    }
    for (int bad : new int[] {LOW, -2, -1, 3, 7, 8, HIGH}) {
      due("needs(0, " + bad + ", 1, 0)", x.needs(0, bad, 1, 0), false);
    }
    for (int both = 0; both < 3; both++) {
      due("needs of itself", x.needs(both, 0, both, 0), false);
    }
    due("needs(0, 2, 2, 0), the last ones", x.needs(0, 2, 2, 0), true);
    due("needs(2, 0, 0, 0), the first ones", x.needs(2, 0, 0, 0), true);
  }

  // ---- Terms: rules, advisories, goals ----

  private static void allowedKinds() {
    says("Terms: STEPS of this KIND or a lesser one are ALLOWED; - 1: it is IGNORED");
    for (int allowed = -1; allowed < 3; allowed++) {
      for (int kind = 0; kind < 3; kind++) {
        UpdateRobot x = robot(9, 0, 1);
        x.newer(0, kind);
        x.newer(1, 0);
        x.needs(1, 1, 0, 1);
        due("rule(0, " + allowed + ", 1, NONE)", x.rule(0, allowed, 1, NONE), true);
        String by = " by " + allowed + " over a step of kind " + kind;
        due("goal(0)" + by, x.goal(0), kind <= allowed ? 1 : 0);
        due("solve(0)" + by, x.solve(0), kind <= allowed ? 1 : 0);
        due("solve(1)" + by, x.solve(1), kind <= allowed ? 2 : -2);
      }
    }
  }

  private static void ruleNotAsTold() {
    says("Promise 5: false if there is no such NAME, or it isn't as told");
    UpdateRobot x = robot(9, 0, 0);
    for (int bad : new int[] {LOW, -2, -1, 2, 11, 12, HIGH}) {
      due("rule(" + bad + ", 2, 1, NONE)", x.rule(bad, 2, 1, NONE), false);
    }
    for (int bad : new int[] {LOW, -3, -2, 3, 4, HIGH}) {
      due("allowed " + bad, x.rule(0, bad, 1, NONE), false);
    }
    for (int bad : new int[] {LOW, -1, 0, 1001, 1002, HIGH}) {
      due("every " + bad, x.rule(0, 2, bad, NONE), false);
    }
    for (int bad : new int[] {LOW, -3, -2, 4, 5, HIGH}) {
      due("group " + bad, x.rule(0, 2, 1, bad), false);
    }
    due("the least of all", x.rule(0, -1, 1, NONE), true);
    due("the most of all", x.rule(1, 2, 1000, 3), true);
  }

  private static void everyFromOneToThousand() {
    says("Terms: EVERY (1 .. 1000); so many ticks at least");
    for (int every : new int[] {1, 2, 7, 999, 1000}) {
      UpdateRobot x = robot(9, 0);
      due("rule of every " + every, x.rule(0, 2, every, NONE), true);
      x.newer(0, 0);
      due("run() when it was not due yet", x.run(), 1);
      x.newer(0, 0);
      due("run() " + (every - 1) + " ticks after", runAfter(x, every - 1), 0);
      due("run() " + every + " ticks after", runAfter(x, 1), 1);
      x.newer(0, 0);
      due("run() " + (every + 1) + " ticks after that", runAfter(x, every + 1), 1);
      x.newer(0, 0);
      due("run() at once", x.run(), 0);
      due("run() 100000 ticks after that", runAfter(x, 100000), 1);
    }
  }

  private static void groups() {
    says("Terms: GROUP 0 .. 3 or NONE; all of a REPOSITORY that have the same GROUP");
    UpdateRobot x = robot(9, 0, 1, 0, 1, 2);
    for (int group = 0; group < 4; group++) {
      for (int n = 0; n < 5; n++) {
        due("rule of group " + group, x.rule(n, 2, 1, group), true);
      }
      int[] chiefs = {0, 1, 0, 1, 4};
      for (int n = 0; n < 5; n++) {
        due("chief(" + n + ") in group " + group, x.chief(n), chiefs[n]);
        due("solve(" + n + ") in group " + group, x.solve(n), chiefs[n] == n ? 0 : NONE);
      }
    }
    x.rule(2, 2, 1, 2);
    due("chief(2): 3 and 2 are not the same", x.chief(2), 2);
    for (int n = 0; n < 5; n++) {
      x.rule(n, 2, 1, NONE);
    }
    for (int n = 0; n < 5; n++) {
      due("chief(" + n + "): NONE is no group", x.chief(n), n);
    }
  }

  private static void oneGroupOfAll() {
    says("Terms: a UNIT is told by its least NAME, the CHIEF (twelve of one group)");
    UpdateRobot x = twelve(1);
    for (int n = 0; n < 12; n++) {
      x.rule(n, 2, 1, 3);
      x.newer(n, 0);
    }
    for (int n = 0; n < 12; n++) {
      due("chief(" + n + ")", x.chief(n), 0);
    }
    due("solve(0)", x.solve(0), 12);
    due("solve(11)", x.solve(11), NONE);
    due("run()", x.run(), 1);
    due("pass(0, true)", x.pass(0, true), 12);
    due("solve(0) when there is nothing to do", x.solve(0), 0);
    x.rule(0, 2, 1, NONE);
    due("chief(11) when 0 left", x.chief(11), 1);
    due("chief(0) when it left", x.chief(0), 0);
  }

  private static void ruleAtFirst() {
    says("Terms: at first: 2, 1, NONE");
    UpdateRobot x = robot(9, 0, 0);
    steps(x, 0, 2);
    steps(x, 1, 2);
    due("goal(0) over a step of kind 2", x.goal(0), 1);
    due("chief(1)", x.chief(1), 1);
    due("run()", x.run(), 2);
    x.newer(0, 2);
    due("run() 0 ticks after", runAfter(x, 0), 0);
    due("run() 1 tick after", runAfter(x, 1), 1);
  }

  private static void notAdvisedAtFirst() {
    says("Terms: ADVISED (or NONE at first)");
    UpdateRobot x = robot(0, 0);
    x.rule(0, -1, 1, NONE);
    x.newer(0, 0);
    due("goal(0)", x.goal(0), 0);
    x.rule(0, 2, 1, NONE);
    due("run() by limit 0", x.run(), 0);
    due("waiting()", x.waiting(), 1);
  }

  private static void adviseNoneSuch() {
    says("Promise 6: NONE: not any more; false if there are none such");
    UpdateRobot x = robot(0, 0, 0);
    steps(x, 0, 0, 0);
    for (int bad : new int[] {LOW, -2, -1, 2, 11, 12, HIGH}) {
      due("advise(" + bad + ", 0)", x.advise(bad, 0), false);
      due("advise(" + bad + ", NONE)", x.advise(bad, NONE), false);
    }
    for (int bad : new int[] {LOW, -3, -2, 3, 7, 8, HIGH}) {
      due("advise(0, " + bad + ")", x.advise(0, bad), false);
    }
    due("advise(1, 1): the other one's version", x.advise(1, 1), false);
    x.rule(0, -1, 1, NONE);
    for (int version = 0; version < 3; version++) {
      due("advise(0, " + version + ")", x.advise(0, version), true);
      due("goal(0) advised up to " + version, x.goal(0), version < 2 ? version + 1 : 0);
    }
    due("advise(0, 0)", x.advise(0, 0), true);
    due("advise(0, NONE)", x.advise(0, NONE), true);
    due("goal(0), not any more", x.goal(0), 0);
    due("advise(0, NONE) again", x.advise(0, NONE), true);
  }

  private static void hitAtThatOrLess() {
    says("Terms: HIT while it HAS that or a lesser one");
    for (int advised = 0; advised < 5; advised++) {
      UpdateRobot x = robot(0, 0);
      steps(x, 0, 2, 2);
      x.advise(0, 1);
      x.run();
      x.pass(0, true);
      steps(x, 0, 2, 2);
      x.rule(0, -1, 1, NONE);
      due("has(0)", x.has(0), 2);
      due("advise(0, " + advised + ")", x.advise(0, advised), true);
      boolean hit = advised >= 2 && advised < 4;
      due("goal(0) from 2, advised up to " + advised, x.goal(0), hit ? advised + 1 : 2);
      due("run() by limit 0 at once", x.run(), hit ? 1 : 0);
    }
  }

  private static void goalAsFarAsMayBe() {
    says("Terms: GOAL by ALLOWED STEPS alone, as far as may be");
    UpdateRobot x = robot(0, 0, 0, 0);
    due("goal(0) without steps", x.goal(0), 0);
    steps(x, 0, 0, 0, 0, 0, 0, 0, 0);
    due("goal(0) over all of seven", x.goal(0), 7);
    steps(x, 1, 0, 0, 0, 0, 0, 0, 1);
    x.rule(1, 0, 1, NONE);
    due("goal(1) but for the last", x.goal(1), 6);
    steps(x, 2, 1, 0, 0, 0, 0, 0, 0);
    x.rule(2, 0, 1, NONE);
    due("goal(2) not over the first", x.goal(2), 0);
    x.rule(2, 1, 1, NONE);
    due("goal(2) over all", x.goal(2), 7);
  }

  private static void goalFromWhatItHas() {
    says("Terms: GOAL: reached from what it HAS");
    UpdateRobot x = robot(0, 0);
    steps(x, 0, 0, 2);
    x.advise(0, 1);
    due("run()", x.run(), 1);
    due("pass(0, true)", x.pass(0, true), 1);
    due("has(0)", x.has(0), 2);
    for (int allowed = -1; allowed < 3; allowed++) {
      x.rule(0, allowed, 1, NONE);
      due("goal(0) by " + allowed + " from the last one", x.goal(0), 2);
    }
    x.newer(0, 0);
    x.rule(0, 0, 1, NONE);
    due("goal(0): the step behind it asks no more", x.goal(0), 3);
    x.rule(0, -1, 1, NONE);
    due("goal(0): ignored, it keeps what it has", x.goal(0), 2);
  }

  private static void goalWhenHit() {
    says("Terms: GOAL if it is HIT and that isn't above what it is ADVISED up to");
    UpdateRobot x = robot(0, 0);
    steps(x, 0, 0, 0, 0, 2, 0, 0, 0);
    x.rule(0, 1, 1, NONE);
    int[] goals = {3, 3, 3, 4, 5, 6, 7, 3};
    for (int advised = 0; advised < 8; advised++) {
      x.advise(0, advised);
      due("goal(0) advised up to " + advised, x.goal(0), goals[advised]);
    }
    x.rule(0, -1, 1, NONE);
    for (int advised = 0; advised < 8; advised++) {
      x.advise(0, advised);
      due("goal(0) ignored, advised up to " + advised, x.goal(0), advised < 7 ? advised + 1 : 0);
    }
    due("solve(0) when nothing is behind", x.solve(0), 0);
    due("run() when nothing is behind", x.run(), 0);
    due("waiting()", x.waiting(), 0);
  }

  // ---- Terms: solving ----

  private static void needAboveTheTarget() {
    says("Terms: NEEDS at its TARGET another one above that one's TARGET");
    UpdateRobot x = robot(9, 0, 0, 0);
    steps(x, 0, 0, 0);
    steps(x, 1, 0, 0);
    x.rule(0, 2, 1, 1);
    x.rule(1, 0, 1, 1);
    x.needs(0, 2, 1, 2);
    due("solve(0): just what the other goes to", x.solve(0), 2);
    x.needs(0, 2, 1, 3);
    due("solve(0): one above what there is", x.solve(0), -3);
    x.newer(1, 2);
    due("solve(0): it is there, but not allowed", x.solve(0), -3);
    x.rule(1, 2, 1, 1);
    due("solve(0): the other goes there itself", x.solve(0), 2);
    x.needs(0, 2, 2, 0);
    due("solve(0): 0 is had by all", x.solve(0), 2);
    x.needs(0, 1, 2, 7);
    due("solve(0): 1 is not its target", x.solve(0), 2);
    x.needs(2, 0, 0, 7);
    due("solve(0): 2 does not rise", x.solve(0), 2);
    x.needs(0, 0, 2, 7);
    x.needs(1, 0, 2, 7);
    due("solve(0): what is had needs nothing", x.solve(0), 2);
  }

  private static void stepsUpToTheNeed() {
    says("Terms: if it has such a VERSION and all STEPS up to it from what it HAS are ALLOWED");
    UpdateRobot x = robot(9, 0, 0);
    x.newer(0, 0);
    steps(x, 1, 0, 1, 0, 2, 0);
    int[] mostByAllowed = {0, 1, 3, 5};
    for (int allowed = -1; allowed < 3; allowed++) {
      x.rule(1, allowed, 1, NONE);
      for (int least = 0; least < 8; least++) {
        x.needs(0, 1, 1, least);
        int want = least == 0 ? 1 : least <= mostByAllowed[allowed + 1] ? 2 : -3;
        due("solve(0) for " + least + " by " + allowed, x.solve(0), want);
      }
    }
    x.needs(0, 1, 1, 4);
    x.rule(1, -1, 1, NONE);
    x.advise(1, 3);
    due("goal(1) is forced", x.goal(1), 4);
    due("solve(0): forced is not allowed", x.solve(0), -3);
    due("run(): only 1 itself", x.run(), 1);
    due("pass(0, true)", x.pass(0, true), 1);
    due("solve(0): the steps are behind", x.solve(0), 1);
  }

  private static void forcedInTheSameUnit() {
    says("Terms: TARGETS at first: GOALS of its NAMES, of others what they HAVE");
    UpdateRobot x = robot(9, 0, 0);
    x.newer(0, 0);
    steps(x, 1, 2, 2);
    x.rule(0, 2, 1, 0);
    x.rule(1, -1, 1, 0);
    x.advise(1, 0);
    x.needs(0, 1, 1, 1);
    due("solve(0): a forced goal meets the need", x.solve(0), 2);
    x.needs(0, 1, 1, 2);
    due("solve(0): above it, no step is allowed", x.solve(0), -3);
    x.rule(1, -1, 1, NONE);
    x.needs(0, 1, 1, 1);
    due("solve(0): of another unit it is what is had", x.solve(0), -3);
  }

  private static void culprits() {
    says("Promise 10: - 2 less the CULPRIT");
    UpdateRobot x = twelve(9);
    x.newer(0, 0);
    x.newer(11, 0);
    for (int culprit = 1; culprit < 12; culprit++) {
      x.needs(0, 1, culprit, 7);
      due("solve(0) by culprit " + culprit, x.solve(0), -2 - culprit);
    }
    for (int culprit = 0; culprit < 11; culprit++) {
      x.needs(11, 1, culprit, 7);
      due("solve(11) by culprit " + culprit, x.solve(11), -2 - culprit);
    }
    due("run(): no way is nothing new", x.run(), 0);
    due("waiting(): no way is no waiting", x.waiting(), 0);
  }

  private static void longNeeds() {
    says("Terms: as long as a NAME NEEDS (a chain of all twelve)");
    UpdateRobot up = twelve(9);
    UpdateRobot down = twelve(9);
    stepOfEach(up, 12);
    stepOfEach(down, 12);
    for (int n = 0; n < 11; n++) {
      up.needs(n, 1, n + 1, 1);
      down.needs(n + 1, 1, n, 1);
    }
    due("solve(0) up to 11", up.solve(0), 12);
    due("solve(11) up to itself", up.solve(11), 1);
    due("solve(11) down to 0", down.solve(11), 12);
    down.needs(0, 1, 11, 1);
    due("solve(11) round", down.solve(11), 12);
    down.needs(0, 1, 11, 2);
    due("solve(11): the culprit is itself", down.solve(11), -13);
  }

  private static void needsRoundAndRound() {
    says("Terms: as long as a NAME NEEDS (eleven of them, seven times round)");
    UpdateRobot x = twelve(20);
    x.newer(11, 0);
    x.needs(11, 1, 0, 1);
    for (int v = 1; v < 8; v++) {
      stepOfEach(x, 11);
      for (int n = 0; n < 10; n++) {
        x.needs(n, v, n + 1, v);
      }
      x.needs(10, v, 0, v < 7 ? v + 1 : 7);
    }
    due("solve(11) round and round", x.solve(11), 12);
    due("run()", x.run(), 12);
    dueTargets(x, 11, 7, 7, 7, 7, 7, 7, 7, 7, 7, 7, 7, 1);
    x.needs(10, 7, 11, 7);
    due("solve(11): no way in the very end", x.solve(11), -13);
  }

  private static void nothingToDo() {
    says("Terms: if no TARGET is above what is HAD, there is NOTHING to do");
    UpdateRobot x = robot(9, 0, 0);
    due("solve(0) without versions", x.solve(0), 0);
    due("run()", x.run(), 0);
    due("waiting()", x.waiting(), 0);
    dueStates(x);
    x.newer(0, 0);
    x.rule(0, -1, 1, NONE);
    due("solve(0) ignored", x.solve(0), 0);
    x.rule(0, 0, 1, NONE);
    due("solve(0)", x.solve(0), 1);
  }

  // ---- Terms: runs ----

  private static void emptyRun() {
    says("Promises 12 and 13: without names, and before a RUN");
    UpdateRobot x = new UpdateRobot(9);
    due("waiting() before", x.waiting(), 0);
    due("run()", x.run(), 0);
    due("waiting() after", x.waiting(), 0);
    dueStates(x);
  }

  private static void dueByHit() {
    says("Terms: DUE if one of its NAMES is HIT");
    UpdateRobot x = robot(9, 0, 0, 0);
    for (int n = 0; n < 3; n++) {
      x.rule(n, 2, 1000, n < 2 ? 0 : NONE);
      steps(x, n, 0);
    }
    due("run()", x.run(), 2);
    stepOfEach(x, 3);
    due("run(): none is due", x.run(), 0);
    x.advise(1, 0);
    due("run(): one of the group is hit", x.run(), 1);
    dueStates(x, REPLACED, OPEN, OPEN);
    dueTargets(x, 2, 2, 2, NONE);
    due("pass(2, true)", x.pass(2, true), 2);
    stepOfEach(x, 2);
    due("run(): hit no more", x.run(), 0);
    due("run() 999 after it was due by the hit", runAfter(x, 999), 0);
    due("run() 1000 after it was due by the hit", runAfter(x, 1), 2);
  }

  private static void dueByItsChief() {
    says("Terms: it has not been DUE in a RUN yet (told by its CHIEF)");
    UpdateRobot x = robot(9, 0, 0, 0);
    for (int n = 0; n < 3; n++) {
      x.rule(n, 2, 1000, 0);
    }
    due("run()", x.run(), 0);
    x.newer(2, 0);
    due("run() of chief 0 again", x.run(), 0);
    x.rule(0, 2, 1000, NONE);
    due("run() of chief 1, not due yet", x.run(), 1);
    due("about(0, 1)", x.about(0, 1), 1);
    x.newer(2, 0);
    x.rule(0, 2, 1000, 0);
    due("run() of chief 0, due already", x.run(), 0);
    x.rule(2, 2, 1000, NONE);
    due("run() of chief 2, not due yet", x.run(), 1);
    due("about(1, 1)", x.about(1, 1), 2);
    due("name(0)", x.name(0), 3);
    x.newer(3, 0);
    due("run() of chief 3, new", x.run(), 1);
    x.newer(3, 0);
    due("run() of chief 3 again", x.run(), 0);
  }

  private static void dueByTheLeastEvery() {
    says("Terms: as the least EVERY of its NAMES");
    for (int quick = 0; quick < 3; quick++) {
      UpdateRobot x = robot(9, 0, 0, 0, 0, 1);
      for (int n = 0; n < 3; n++) {
        x.rule(n, 2, n == quick ? 5 : 50, 2);
      }
      steps(x, 0, 0);
      due("run()", x.run(), 1);
      steps(x, 0, 0);
      due("run() after 4, though others' is 1", runAfter(x, 4), 0);
      due("run() after 5", runAfter(x, 1), 1);
      x.rule(quick, 2, 50, NONE);
      steps(x, quick == 0 ? 1 : 0, 0);
      x.run();
      int before = countProposals(x);
      steps(x, quick == 0 ? 1 : 0, 0);
      due("run() 49 after, without the quick one", runAfter(x, 49), 0);
      due("run() 50 after, without the quick one", runAfter(x, 1), 1);
      due("the proposals", countProposals(x), before + 1);
    }
  }

  private static int countProposals(UpdateRobot x) {
    int count = 0;
    while (x.about(count, 0) != NONE) {
      count++;
    }
    return count;
  }

  private static void noWayOrNothing() {
    says("Terms: NO WAY, or NOTHING: an OPEN PROPOSAL of this CHIEF is ABANDONED");
    UpdateRobot x = robot(9, 0, 0);
    steps(x, 0, 0);
    steps(x, 1, 0);
    due("run()", x.run(), 2);
    x.needs(0, 1, 1, 2);
    x.rule(1, -1, 1, NONE);
    due("run(): no way for 0, nothing for 1", runAfter(x, 1), 0);
    due("waiting()", x.waiting(), 0);
    dueStates(x, ABANDONED, ABANDONED);
    due("run(): none is open", runAfter(x, 1), 0);
    dueStates(x, ABANDONED, ABANDONED);
    UpdateRobot y = robot(9, 0, 0);
    steps(y, 0, 0);
    y.run();
    y.pass(0, false);
    y.rule(0, -1, 1, NONE);
    due("run(): a failed one is not open", runAfter(y, 1), 0);
    dueStates(y, FAILED);
  }

  private static void sameStays() {
    says("Terms: if one is OPEN with the same TARGETS: it stays");
    UpdateRobot x = robot(0, 0, 0);
    steps(x, 0, 0, 0);
    steps(x, 1, 0, 0);
    x.needs(0, 2, 1, 1);
    x.advise(0, 0);
    x.tick(8);
    due("run()", x.run(), 1);
    x.advise(0, NONE);
    due("run(): the limit asks not again", runAfter(x, 1), 0);
    due("waiting(): 1 alone", x.waiting(), 1);
    due("about(0, 3)", x.about(0, 3), 8);
    due("about(0, 4)", x.about(0, 4), 1);
    due("about(0, 2)", x.about(0, 2), 0);
    dueStates(x, OPEN);
    x.needs(0, 2, 1, 2);
    due("run(): another version of one that is needed", runAfter(x, 1), 1);
    dueStates(x, REPLACED, OPEN);
    x.needs(0, 2, 1, 0);
    due("run(): one less", runAfter(x, 1), 1);
    dueStates(x, REPLACED, REPLACED, OPEN);
    x.needs(0, 2, 1, 1);
    due("run(): one more, as it once was", runAfter(x, 1), 1);
    dueStates(x, REPLACED, REPLACED, REPLACED, OPEN);
  }

  private static void neverTheSameTwice() {
    says("Terms: the latest of this CHIEF that FAILED has the same TARGETS");
    UpdateRobot x = robot(1, 0, 0);
    steps(x, 0, 0, 1);
    due("run()", x.run(), 1);
    due("pass(0, false)", x.pass(0, false), 0);
    due("run(): nothing is opened", runAfter(x, 1), 0);
    due("waiting()", x.waiting(), 0);
    due("open(0)", x.open(0), 0);
    dueStates(x, FAILED);
    x.advise(0, 0);
    due("run(): nor when it is hit", x.run(), 0);
    dueStates(x, FAILED);
    x.rule(0, 0, 1, NONE);
    due("run(): less is not the same", x.run(), 1);
    x.rule(0, 2, 1, NONE);
    due("run(): an open one is abandoned", x.run(), 0);
    due("waiting()", x.waiting(), 0);
    dueStates(x, FAILED, ABANDONED);
    x.newer(0, 0);
    due("run(): more is not the same", x.run(), 1);
    due("pass(2, false)", x.pass(2, false), 0);
    x.rule(0, 0, 1, NONE);
    due("run(): 1 was abandoned, not failed", x.run(), 1);
    dueStates(x, FAILED, ABANDONED, FAILED, OPEN);
    x.rule(0, 2, 1, NONE);
    due("run(): the latest that failed", x.run(), 0);
    dueStates(x, FAILED, ABANDONED, FAILED, ABANDONED);
  }

  private static void replacedBeyondTheLimit() {
    says("Terms: if one is OPEN, it is REPLACED by a new one (the limit asks not)");
    UpdateRobot x = robot(1, 0, 0);
    steps(x, 1, 0);
    due("run()", x.run(), 1);
    steps(x, 0, 0);
    x.advise(0, 0);
    due("run(): one beyond the limit, as it is hit", x.run(), 1);
    x.advise(0, NONE);
    stepOfEach(x, 2);
    due("open(0)", x.open(0), 2);
    due("run(): both are replaced", runAfter(x, 1), 2);
    due("waiting()", x.waiting(), 0);
    due("open(0)", x.open(0), 2);
    dueStates(x, REPLACED, REPLACED, OPEN, OPEN);
    due("about(2, 4): not hit then", x.about(2, 4), 0);
    UpdateRobot y = robot(0, 0);
    steps(y, 0, 0);
    y.advise(0, 0);
    due("run() by limit 0", y.run(), 1);
    y.advise(0, NONE);
    y.newer(0, 0);
    due("run() by limit 0, replaced", runAfter(y, 1), 1);
    dueStates(y, REPLACED, OPEN);
  }

  private static void limits() {
    says("Promise 1: LIMIT 0 .. 20 (less counts as 0, more as 20)");
    int[][] limits = {{LOW, 0}, {-2, 0}, {-1, 0}, {0, 0}, {1, 1}, {2, 2}, {11, 11}, {12, 12},
      {19, 12}, {20, 12}, {21, 12}, {22, 12}, {HIGH, 12}};
    for (int[] limit : limits) {
      UpdateRobot x = twelve(limit[0]);
      stepOfEach(x, 12);
      due("run() by limit " + limit[0], x.run(), limit[1]);
      due("open(0) by limit " + limit[0], x.open(0), limit[1]);
      due("waiting() by limit " + limit[0], x.waiting(), 12 - limit[1]);
      due("run() a tick after, by limit " + limit[0], runAfter(x, 1), 0);
      due("waiting() a tick after, by limit " + limit[0], x.waiting(), 12 - limit[1]);
      due("run() at once, by limit " + limit[0], x.run(), 0);
      due("waiting() when none is due", x.waiting(), 0);
    }
  }

  private static void fewerThanTheLimit() {
    says("Terms: if its REPOSITORY (the CHIEF's) has fewer OPEN ones than the LIMIT");
    UpdateRobot x = robot(2, 0, 0, 0, 1, 1, 2);
    stepOfEach(x, 6);
    due("run(): two of three, two of two, one of one", x.run(), 5);
    due("waiting()", x.waiting(), 1);
    for (int p = 0; p < 5; p++) {
      due("about(" + p + ", 1)", x.about(p, 1), p < 2 ? p : p + 1);
    }
    x.pass(2, false);
    due("run(): room elsewhere is no room", runAfter(x, 1), 0);
    due("waiting()", x.waiting(), 1);
    x.pass(1, false);
    due("run(): room for one", runAfter(x, 1), 1);
    due("waiting()", x.waiting(), 0);
    due("about(5, 1)", x.about(5, 1), 2);
    due("open(0)", x.open(0), 2);
    due("open(1)", x.open(1), 1);
    due("open(2)", x.open(2), 1);
  }

  private static void openWithoutUnit() {
    says("Promise 17: PROPOSALS of a REPOSITORY (by their CHIEFS), though no CHIEF any more");
    UpdateRobot x = robot(1, 0, 0);
    steps(x, 1, 0);
    due("run()", x.run(), 1);
    x.rule(0, 2, 1, 0);
    x.rule(1, 2, 1, 0);
    due("run(): it is open still, so 0 waits", runAfter(x, 1), 0);
    due("waiting()", x.waiting(), 1);
    due("open(0)", x.open(0), 1);
    dueStates(x, OPEN);
    x.newer(1, 0);
    due("pass(0, true): it lands though 1 is no chief", x.pass(0, true), 1);
    due("has(1)", x.has(1), 1);
    due("open(0)", x.open(0), 0);
    due("run()", runAfter(x, 1), 1);
    dueStates(x, LANDED, OPEN);
    due("about(1, 1)", x.about(1, 1), 0);
  }

  private static void hitBeyondTheLimit() {
    says("Terms: or a NAME of the UNIT is HIT; otherwise it WAITS");
    UpdateRobot x = twelve(0);
    stepOfEach(x, 12);
    for (int n = 0; n < 11; n++) {
      x.advise(n, 0);
    }
    due("run() by limit 0", x.run(), 11);
    due("waiting()", x.waiting(), 1);
    due("open(0)", x.open(0), 11);
    x.advise(11, 1);
    x.rule(11, -1, 1, NONE);
    due("run(): hit, but nothing is behind", x.run(), 0);
    due("waiting()", x.waiting(), 0);
    UpdateRobot y = robot(0, 0, 0, 1);
    stepOfEach(y, 3);
    y.needs(0, 1, 1, 1);
    y.needs(0, 0, 2, 0);
    y.advise(1, 0);
    due("run(): who raises a hit one is not hit itself", y.run(), 1);
    due("about(0, 1)", y.about(0, 1), 1);
    due("waiting()", y.waiting(), 2);
  }

  private static void dueThoughItWaited() {
    says("Terms: otherwise it WAITS (it was DUE all the same)");
    UpdateRobot x = robot(1, 0, 0);
    x.rule(1, 2, 10, NONE);
    stepOfEach(x, 2);
    due("run()", x.run(), 1);
    due("waiting()", x.waiting(), 1);
    x.pass(0, true);
    due("run() after 9: it isn't due", runAfter(x, 9), 0);
    due("waiting()", x.waiting(), 0);
    due("run() after 10", runAfter(x, 1), 1);
    due("about(1, 1)", x.about(1, 1), 1);
  }

  // ---- Terms: sixty proposals ----

  /** 59 proposals: name 11 is not due for its fifth, and is so a thousand ticks later. */
  private static UpdateRobot fiftyNine() {
    UpdateRobot x = robot(20, 0, 0, 0, 0, 1, 1, 1, 1, 2, 2, 2, 2);
    for (int round = 0; round < 5; round++) {
      if (round == 4) {
        x.rule(11, 2, 1000, NONE);
      }
      stepOfEach(x, 12);
      due("run() of round " + round, runAfter(x, 1), round < 4 ? 12 : 11);
    }
    due("about(58, 1)", x.about(58, 1), 10);
    due("about(59, 1)", x.about(59, 1), NONE);
    due("about(47, 0)", x.about(47, 0), OPEN);
    return x;
  }

  private static void theSixtieth() {
    says("Terms: PROPOSALS, at most 60; no more than 60: it WAITS");
    UpdateRobot x = fiftyNine();
    x.newer(0, 0);
    x.newer(1, 0);
    due("run(): the sixtieth is opened, one more is not", runAfter(x, 1), 1);
    due("waiting()", x.waiting(), 1);
    due("about(48, 0)", x.about(48, 0), REPLACED);
    due("about(49, 0)", x.about(49, 0), OPEN);
    due("about(59, 0)", x.about(59, 0), OPEN);
    due("about(59, 1)", x.about(59, 1), 0);
    due("about(59, 3)", x.about(59, 3), 6);
    due("target(59, 0)", x.target(59, 0), 6);
    due("about(60, 0)", x.about(60, 0), NONE);
    due("target(60, 0)", x.target(60, 0), NONE);
    due("pass(60, true)", x.pass(60, true), NONE);
    due("run(): it waited, but was due", x.run(), 0);
    due("waiting()", x.waiting(), 0);
    due("run(): and it waits again", runAfter(x, 1), 0);
    due("waiting()", x.waiting(), 1);
    due("pass(59, true)", x.pass(59, true), 1);
    due("has(0)", x.has(0), 6);
    due("pass(49, true)", x.pass(49, true), 1);
    due("has(1)", x.has(1), 5);
    due("run(): a landed one makes no room", runAfter(x, 1), 0);
    due("waiting()", x.waiting(), 1);
    x.rule(2, -1, 1, NONE);
    x.advise(1, 5);
    due("run(): nor is there room for a hit one", runAfter(x, 1), 0);
    due("waiting()", x.waiting(), 1);
    due("about(50, 0): abandoned all the same", x.about(50, 0), ABANDONED);
    due("run(): a hit one is due at once, and waits", x.run(), 0);
    due("waiting()", x.waiting(), 1);
    due("about(60, 0)", x.about(60, 0), NONE);
  }

  private static void sixtyAndStill() {
    says("Terms: at 60, what opens nothing new is as ever");
    UpdateRobot x = fiftyNine();
    x.newer(11, 0);
    x.rule(11, 2, 1, NONE);
    due("run(): the sixtieth", runAfter(x, 1), 1);
    due("waiting()", x.waiting(), 0);
    x.pass(48, false);
    due("run(): what failed does not wait", runAfter(x, 1), 0);
    due("waiting()", x.waiting(), 0);
    x.rule(0, -1, 1, NONE);
    due("run(): what has nothing to do does not wait", runAfter(x, 1), 0);
    due("waiting()", x.waiting(), 0);
    x.needs(1, 5, 2, 7);
    due("run(): what has no way does not wait", runAfter(x, 1), 0);
    due("waiting()", x.waiting(), 0);
    due("about(48, 0)", x.about(48, 0), FAILED);
    due("about(49, 0)", x.about(49, 0), ABANDONED);
    due("about(59, 0)", x.about(59, 0), OPEN);
    due("open(0)", x.open(0), 2);
    due("open(2)", x.open(2), 4);
  }

  private static void sixtyAndRedone() {
    says("Terms: at 60, what is OPEN is REDONE as ever");
    UpdateRobot x = fiftyNine();
    x.newer(11, 0);
    x.rule(11, 2, 1, NONE);
    x.needs(10, 5, 11, 1);
    due("run(): the sixtieth is 10's, so 11 waits", runAfter(x, 1), 1);
    due("waiting()", x.waiting(), 1);
    due("about(59, 1)", x.about(59, 1), 10);
    due("target(59, 11)", x.target(59, 11), 1);
    due("about(47, 1)", x.about(47, 1), 11);
    due("target(47, 11)", x.target(47, 11), 4);
    due("pass(59, true)", x.pass(59, true), 2);
    due("about(47, 0)", x.about(47, 0), OPEN);
    due("about(47, 2)", x.about(47, 2), 1);
    due("target(47, 11)", x.target(47, 11), 6);
    due("run(): now it has what it waited for", runAfter(x, 1), 0);
    due("waiting()", x.waiting(), 0);
  }

  // ---- Terms: landings ----

  private static void redoneIfItRaisesWhatMoved() {
    says("Terms: OPEN and would raise a NAME that moved by this is REDONE");
    UpdateRobot x = robot(9, 0, 0, 0, 0);
    for (int n = 0; n < 4; n++) {
      steps(x, n, 0, 0);
    }
    x.needs(1, 2, 0, 1);
    x.needs(2, 2, 0, 2);
    due("run()", x.run(), 4);
    x.needs(3, 2, 0, 7);
    due("pass(1, true)", x.pass(1, true), 2);
    dueStates(x, OPEN, LANDED, OPEN, OPEN);
    int[] often = {1, 0, 1, 0};
    for (int p = 0; p < 4; p++) {
      due("about(" + p + ", 2)", x.about(p, 2), often[p]);
    }
    dueTargets(x, 0, 2, NONE, NONE, NONE);
    dueTargets(x, 1, 1, 2, NONE, NONE);
    dueTargets(x, 2, 2, NONE, 2, NONE);
    dueTargets(x, 3, NONE, NONE, NONE, 2);
    due("pass(2, true)", x.pass(2, true), 2);
    dueStates(x, ABANDONED, LANDED, LANDED, OPEN);
    due("about(0, 2): abandoned does not count", x.about(0, 2), 1);
    dueTargets(x, 0, 2, NONE, NONE, NONE);
  }

  private static void redoneIsNotOpenedAnew() {
    says("Promise 14: the CLOCK when it was OPENED, whether a NAME of its UNIT was HIT then");
    UpdateRobot x = robot(9, 0, 0, 0);
    for (int n = 0; n < 3; n++) {
      steps(x, n, 0, 0);
    }
    x.needs(1, 2, 0, 1);
    x.needs(2, 2, 0, 1);
    x.advise(2, 0);
    x.tick(5);
    due("run()", x.run(), 3);
    x.advise(0, 1);
    x.advise(2, NONE);
    x.tick(6);
    due("pass(1, true)", x.pass(1, true), 2);
    int[][] wants = {{OPEN, 0, 1, 5, 0}, {LANDED, 1, 0, 5, 0}, {OPEN, 2, 1, 5, 1}};
    for (int p = 0; p < 3; p++) {
      for (int what = 0; what < 5; what++) {
        due("about(" + p + ", " + what + ")", x.about(p, what), wants[p][what]);
      }
    }
  }

  private static void onlyOpenOnesAreRedone() {
    says("Terms: each other PROPOSAL that is OPEN");
    UpdateRobot x = robot(9, 0, 0, 0);
    for (int n = 0; n < 3; n++) {
      steps(x, n, 0, 0);
    }
    x.needs(1, 2, 0, 2);
    x.needs(2, 2, 0, 2);
    due("run()", x.run(), 3);
    x.pass(1, false);
    x.newer(2, 0);
    due("run()", runAfter(x, 1), 1);
    x.rule(2, -1, 1, NONE);
    due("run()", runAfter(x, 1), 0);
    dueStates(x, OPEN, FAILED, REPLACED, ABANDONED);
    due("pass(0, true)", x.pass(0, true), 1);
    dueStates(x, LANDED, FAILED, REPLACED, ABANDONED);
    dueTargets(x, 0, 2, NONE, NONE);
    dueTargets(x, 1, 2, 2, NONE);
    dueTargets(x, 2, 2, NONE, 2);
    dueTargets(x, 3, NONE, NONE, 3);
    for (int p = 0; p < 4; p++) {
      due("about(" + p + ", 2)", x.about(p, 2), 0);
    }
  }

  private static void redoneWithoutWay() {
    says("Terms: NO WAY, NOTHING, or no UNIT: it is ABANDONED");
    for (int how = 0; how < 4; how++) {
      UpdateRobot x = robot(9, 0, 0, 0, 0);
      steps(x, 1, 0);
      steps(x, 3, 0);
      x.needs(1, 1, 3, 1);
      due("run()", x.run(), 2);
      if (how == 1) x.needs(1, 1, 2, 1);
      if (how == 2) x.rule(1, -1, 1, NONE);
      if (how == 3) x.rule(1, 2, 1, 0);
      if (how == 3) x.rule(0, 2, 1, 0);
      due("pass(1, true)", x.pass(1, true), 1);
      dueStates(x, how == 0 ? OPEN : ABANDONED, LANDED);
      due("about(0, 2)", x.about(0, 2), how == 0 ? 1 : 0);
      dueTargets(x, 0, NONE, 1, NONE, how == 0 ? NONE : 1);
      due("pass(0, true)", x.pass(0, true), how == 0 ? 1 : NONE);
      due("has(1)", x.has(1), how == 0 ? 1 : 0);
    }
  }

  private static void failingRedoesNothing() {
    says("Promise 16: or failed: it is FAILED (0 if FAILED)");
    UpdateRobot x = robot(9, 0, 0);
    steps(x, 0, 0);
    steps(x, 1, 0);
    x.needs(0, 1, 1, 1);
    due("run()", x.run(), 2);
    due("pass(0, false)", x.pass(0, false), 0);
    due("has(0)", x.has(0), 0);
    due("has(1)", x.has(1), 0);
    dueStates(x, FAILED, OPEN);
    due("about(1, 2)", x.about(1, 2), 0);
    dueTargets(x, 0, 1, 1);
  }

  // ---- The other promises ----

  /** Not a name of a robot with three of them; with none, 0 to 2 are none either. */
  private static final int[] NO_NAMES = {LOW, -2, -1, 3, 4, 11, 12, HIGH};

  private static UpdateRobot threeThatMayRise() {
    UpdateRobot x = robot(1, 0, 1, 2);
    stepOfEach(x, 3);
    return x;
  }

  private static void newerOfNoneSuch() {
    says("Promise 3: NONE if there is no such NAME");
    UpdateRobot x = threeThatMayRise();
    for (int bad : NO_NAMES) {
      due("newer(" + bad + ", 0)", x.newer(bad, 0), NONE);
    }
    due("newer(0, 0), the first", x.newer(0, 0), 2);
    due("newer(2, 0), the last", x.newer(2, 0), 2);
    due("newer(0, 0) without names", new UpdateRobot(1).newer(0, 0), NONE);
  }

  private static void hasOfNoneSuch() {
    says("Promise 7: NONE if there is none such");
    UpdateRobot x = threeThatMayRise();
    for (int bad : NO_NAMES) {
      due("has(" + bad + ")", x.has(bad), NONE);
    }
    due("has(0), the first", x.has(0), 0);
    due("has(2), the last", x.has(2), 0);
    due("has(0) without names", new UpdateRobot(1).has(0), NONE);
  }

  private static void goalOfNoneSuch() {
    says("Promise 8: NONE if there is none such");
    UpdateRobot x = threeThatMayRise();
    for (int bad : NO_NAMES) {
      due("goal(" + bad + ")", x.goal(bad), NONE);
    }
    due("goal(0), the first", x.goal(0), 1);
    due("goal(2), the last", x.goal(2), 1);
    due("goal(0) without names", new UpdateRobot(1).goal(0), NONE);
  }

  private static void chiefOfNoneSuch() {
    says("Promise 9: NONE if there is none such");
    UpdateRobot x = threeThatMayRise();
    for (int bad : NO_NAMES) {
      due("chief(" + bad + ")", x.chief(bad), NONE);
    }
    due("chief(0), the first", x.chief(0), 0);
    due("chief(2), the last", x.chief(2), 2);
    due("chief(0) without names", new UpdateRobot(1).chief(0), NONE);
  }

  private static void solveOfNoneSuch() {
    says("Promise 10: NONE if there is no such NAME, or it is no CHIEF");
    UpdateRobot x = threeThatMayRise();
    for (int bad : NO_NAMES) {
      due("solve(" + bad + ")", x.solve(bad), NONE);
    }
    due("solve(0), the first", x.solve(0), 1);
    due("solve(2), the last", x.solve(2), 1);
    due("solve(0) without names", new UpdateRobot(1).solve(0), NONE);
    due("name(0)", x.name(0), 3);
    x.rule(0, 2, 1, 0);
    x.rule(3, 2, 1, 0);
    due("solve(3), no chief", x.solve(3), NONE);
    x.rule(0, 2, 1, 1);
    due("solve(3), a chief again", x.solve(3), 0);
  }

  private static void solvingAlone() {
    says("Promise 10: is SOLVED (nothing else is done)");
    UpdateRobot x = threeThatMayRise();
    for (int n = 0; n < 3; n++) {
      x.rule(n, 2, 1000, NONE);
      due("solve(" + n + ")", x.solve(n), 1);
      due("has(" + n + ")", x.has(n), 0);
      due("open(" + n + ")", x.open(n), 0);
    }
    dueStates(x);
    due("run(): none was due by that", x.run(), 3);
  }

  private static void openOfNoneSuch() {
    says("Promise 17: NONE if there is none such");
    UpdateRobot x = threeThatMayRise();
    due("run()", x.run(), 3);
    for (int bad : new int[] {LOW, -2, -1, 3, 4, HIGH}) {
      due("open(" + bad + ")", x.open(bad), NONE);
    }
    due("open(0), the first", x.open(0), 1);
    due("open(2), the last", x.open(2), 1);
    due("open(0) without names", new UpdateRobot(1).open(0), 0);
  }

  private static void ticks() {
    says("Promise 11: n (0 .. 100000)");
    UpdateRobot x = new UpdateRobot(1);
    due("tick(0)", x.tick(0), 0);
    for (int bad : new int[] {LOW, -100000, -2, -1, 100001, 100002, HIGH}) {
      due("tick(" + bad + ")", x.tick(bad), NONE);
      due("tick(0) after it", x.tick(0), 0);
    }
    due("tick(1)", x.tick(1), 1);
    due("tick(100000)", x.tick(100000), 100001);
    due("tick(99999)", x.tick(99999), 200000);
  }

  /** No 512 calls come so far; the bound is kept beyond them all the same. */
  private static void endOfTheClock() {
    says("Promise 11: or it would be above 1000000000");
    UpdateRobot x = robot(1, 0);
    x.newer(0, 0);
    for (int i = 0; i < 9999; i++) {
      x.tick(100000);
    }
    due("tick(99999)", x.tick(99999), 999999999);
    due("tick(2)", x.tick(2), NONE);
    due("tick(100000)", x.tick(100000), NONE);
    due("tick(1)", x.tick(1), 1000000000);
    due("tick(1) above it", x.tick(1), NONE);
    due("tick(100000) above it", x.tick(100000), NONE);
    due("tick(0) at it", x.tick(0), 1000000000);
    due("run() at it", x.run(), 1);
    due("about(0, 3)", x.about(0, 3), 1000000000);
  }

  private static void waitingInTheLatest() {
    says("Promise 13: how many UNITS WAITED in the latest RUN; 0 before");
    UpdateRobot x = twelve(0);
    due("waiting() before", x.waiting(), 0);
    stepOfEach(x, 12);
    due("waiting() before, with steps", x.waiting(), 0);
    due("run()", x.run(), 0);
    due("waiting(), all of twelve", x.waiting(), 12);
    x.rule(0, -1, 1, NONE);
    x.tick(1);
    due("waiting() till the next run", x.waiting(), 12);
    due("run()", x.run(), 0);
    due("waiting(), one less", x.waiting(), 11);
    due("run(): none is due", x.run(), 0);
    due("waiting()", x.waiting(), 0);
    for (int n = 0; n < 12; n++) {
      x.rule(n, 2, 1, n / 4);
    }
    due("run() of three units", runAfter(x, 1), 0);
    due("waiting(), units and not names", x.waiting(), 3);
  }

  private static void aboutNoneSuch() {
    says("Promise 14: NONE if there is none such, or for another what");
    UpdateRobot x = robot(1, 0, 0);
    due("about(0, 0) before", x.about(0, 0), NONE);
    x.newer(1, 0);
    x.advise(1, 0);
    x.tick(100000);
    due("run()", x.run(), 1);
    int[] wants = {OPEN, 1, 0, 100000, 1};
    for (int what = 0; what < 5; what++) {
      due("about(0, " + what + ")", x.about(0, what), wants[what]);
      for (int bad : new int[] {LOW, -2, -1, 1, 59, 60, 61, HIGH}) {
        due("about(" + bad + ", " + what + ")", x.about(bad, what), NONE);
      }
    }
    for (int bad : new int[] {LOW, -2, -1, 5, 6, HIGH}) {
      due("about(0, " + bad + ")", x.about(0, bad), NONE);
    }
  }

  private static void targetNoneSuch() {
    says("Promise 15: NONE otherwise, or if there are none such");
    UpdateRobot x = robot(1, 0, 0, 0);
    due("target(0, 0) before", x.target(0, 0), NONE);
    steps(x, 0, 0, 0);
    x.rule(1, 2, 1, NONE);
    due("run()", x.run(), 1);
    dueTargets(x, 0, 2, NONE, NONE);
    for (int bad : new int[] {LOW, -2, -1, 3, 11, 12, HIGH}) {
      due("target(0, " + bad + ")", x.target(0, bad), NONE);
    }
    for (int bad : new int[] {LOW, -2, -1, 1, 59, 60, 61, HIGH}) {
      due("target(" + bad + ", 0)", x.target(bad, 0), NONE);
    }
    due("name(0)", x.name(0), 3);
    due("target(0, 3) of a name that came later", x.target(0, 3), NONE);
    due("pass(0, true)", x.pass(0, true), 1);
    due("target(0, 0) as it was then", x.target(0, 0), 2);
  }

  private static void passNotOpen() {
    says("Promise 16: NONE if there is none such, or it isn't OPEN");
    UpdateRobot x = robot(9, 0, 0, 0);
    due("pass(0, true) before", x.pass(0, true), NONE);
    due("pass(0, false) before", x.pass(0, false), NONE);
    steps(x, 0, 0);
    steps(x, 1, 0);
    steps(x, 2, 0);
    due("run()", x.run(), 3);
    x.pass(0, true);
    x.pass(1, false);
    x.newer(2, 0);
    due("run()", runAfter(x, 1), 1);
    x.rule(2, -1, 1, NONE);
    due("run()", runAfter(x, 1), 0);
    dueStates(x, LANDED, FAILED, REPLACED, ABANDONED);
    for (int p = 0; p < 4; p++) {
      due("pass(" + p + ", true)", x.pass(p, true), NONE);
      due("pass(" + p + ", false)", x.pass(p, false), NONE);
    }
    for (int bad : new int[] {LOW, -2, -1, 4, 59, 60, 61, HIGH}) {
      due("pass(" + bad + ", true)", x.pass(bad, true), NONE);
      due("pass(" + bad + ", false)", x.pass(bad, false), NONE);
    }
    dueStates(x, LANDED, FAILED, REPLACED, ABANDONED);
    due("has(0)", x.has(0), 1);
    due("has(1)", x.has(1), 0);
    due("has(2)", x.has(2), 0);
  }

  private static void openFromNoneToAll() {
    says("Promise 17: how many are OPEN");
    UpdateRobot x = twelve(20);
    due("open(0) without any", x.open(0), 0);
    stepOfEach(x, 12);
    due("run()", x.run(), 12);
    for (int p = 0; p < 12; p++) {
      due("open(0) before " + p, x.open(0), 12 - p);
      due("pass(" + p + ", ..)", x.pass(p, p % 2 == 0), p % 2 == 0 ? 1 : 0);
    }
    due("open(0) after all", x.open(0), 0);
    due("open(1)", x.open(1), 0);
  }

  private static void callsUpToTheLast() {
    says("What it is: at most 512 calls");
    UpdateRobot x = new UpdateRobot(1);
    due("name(0)", x.name(0), 0);
    due("newer(0, 0)", x.newer(0, 0), 1);
    for (int call = 3; call < 510; call++) {
      due("tick(1), call " + call, x.tick(1), call - 2);
    }
    due("run(), call 510", x.run(), 1);
    due("pass(0, true), call 511", x.pass(0, true), 1);
    due("has(0), call 512", x.has(0), 1);
  }

  private static void terms() {
    atMostTwelveNames();
    threeRepositories();
    atMostEightVersions();
    versionZeroFromTheBeginning();
    threeKinds();
    atMostOneNeedEach();
    neededVersions();
    needsOfNoneSuch();
    allowedKinds();
    ruleNotAsTold();
    everyFromOneToThousand();
    groups();
    oneGroupOfAll();
    ruleAtFirst();
    notAdvisedAtFirst();
    adviseNoneSuch();
    hitAtThatOrLess();
    goalAsFarAsMayBe();
    goalFromWhatItHas();
    goalWhenHit();
  }

  private static void solvings() {
    needAboveTheTarget();
    stepsUpToTheNeed();
    forcedInTheSameUnit();
    culprits();
    longNeeds();
    needsRoundAndRound();
    nothingToDo();
  }

  private static void runs() {
    emptyRun();
    dueByHit();
    dueByItsChief();
    dueByTheLeastEvery();
    noWayOrNothing();
    sameStays();
    neverTheSameTwice();
    replacedBeyondTheLimit();
    limits();
    fewerThanTheLimit();
    openWithoutUnit();
    hitBeyondTheLimit();
    dueThoughItWaited();
    theSixtieth();
    sixtyAndStill();
    sixtyAndRedone();
  }

  private static void landings() {
    redoneIfItRaisesWhatMoved();
    redoneIsNotOpenedAnew();
    onlyOpenOnesAreRedone();
    redoneWithoutWay();
    failingRedoesNothing();
  }

  private static void others() {
    newerOfNoneSuch();
    hasOfNoneSuch();
    goalOfNoneSuch();
    chiefOfNoneSuch();
    solveOfNoneSuch();
    solvingAlone();
    openOfNoneSuch();
    ticks();
    endOfTheClock();
    waitingInTheLatest();
    aboutNoneSuch();
    targetNoneSuch();
    passNotOpen();
    openFromNoneToAll();
    callsUpToTheLast();
  }

  public static void main(String[] args) {
    terms();
    solvings();
    runs();
    landings();
    others();
    System.out.println(wrong == 0 ? "all answers are as due" : wrong + " answers are not as due");
    if (wrong != 0) System.exit(1);
  }
}
