/**
 * A robot that proposes newer versions of names, unit by unit, and lands, redoes, replaces or
 * abandons what it proposed. The numbered promises of its document say what each call answers.
 */
public final class UpdateRobot {
    public static final int NONE = -1;

    private static final int MAX_NAMES = 12;
    private static final int MAX_VERSIONS = 8;
    private static final int MAX_PROPOSALS = 60;
    private static final int MAX_LIMIT = 20;
    private static final int MAX_EVERY = 1000;
    private static final int MAX_TICKS = 100000;
    private static final int MAX_CLOCK = 1000000000;
    private static final int REPOSITORIES = 3;
    private static final int GROUPS = 4;
    private static final int KINDS = 3;

    private static final int OPEN = 0;
    private static final int LANDED = 1;
    private static final int REPLACED = 2;
    private static final int ABANDONED = 3;
    private static final int FAILED = 4;

    /** What "no way" answers when the culprit is name 0; one less for each name behind it. */
    private static final int NO_WAY = -2;

    private final int limit;
    private final Names names;
    private final Solver solver;
    private final Proposals proposals;
    private int clock;
    private int waited;

    public UpdateRobot(int limit) {
        this.limit = Math.max(0, Math.min(MAX_LIMIT, limit));
        this.names = new Names();
        this.solver = new Solver();
        this.proposals = new Proposals();
        this.clock = 0;
        this.waited = 0;
    }

    public int name(int repository) {
        if (!isRepository(repository)) {
            return NONE;
        }
        return names.add(repository);
    }

    public int newer(int name, int kind) {
        if (!names.isKnown(name) || kind < 0 || kind >= KINDS) {
            return NONE;
        }
        return names.addVersion(name, kind);
    }

    public boolean needs(int name, int version, int other, int least) {
        if (!names.hasVersion(name, version) || !names.isKnown(other) || name == other) {
            return false;
        }
        if (least < 0 || least >= MAX_VERSIONS) {
            return false;
        }
        names.needed[name][version] = other;
        names.neededLeast[name][version] = least;
        return true;
    }

    public boolean rule(int name, int allowed, int every, int group) {
        if (!names.isKnown(name) || allowed < NONE || allowed >= KINDS) {
            return false;
        }
        if (every < 1 || every > MAX_EVERY || group < NONE || group >= GROUPS) {
            return false;
        }
        names.allowed[name] = allowed;
        names.every[name] = every;
        names.group[name] = group;
        return true;
    }

    public boolean advise(int name, int version) {
        if (!names.isKnown(name)) {
            return false;
        }
        if (version != NONE && !names.hasVersion(name, version)) {
            return false;
        }
        names.advised[name] = version;
        return true;
    }

    public int has(int name) {
        return names.isKnown(name) ? names.had[name] : NONE;
    }

    public int goal(int name) {
        return names.isKnown(name) ? names.goalOf(name) : NONE;
    }

    public int chief(int name) {
        return names.isKnown(name) ? names.chiefOf(name) : NONE;
    }

    public int solve(int chief) {
        return names.isChief(chief) ? solver.solveUnit(names, chief) : NONE;
    }

    public int tick(int n) {
        if (n < 0 || n > MAX_TICKS || n > MAX_CLOCK - clock) {
            return NONE;
        }
        clock += n;
        return clock;
    }

    public int run() {
        int before = proposals.count;
        waited = 0;
        for (int chief = 0; chief < names.count; chief++) {
            if (names.isChief(chief) && isDue(chief)) {
                names.dueAt[chief] = clock;
                review(chief);
            }
        }
        return proposals.count - before;
    }

    public int waiting() {
        return waited;
    }

    public int about(int proposal, int what) {
        if (!proposals.isKnown(proposal)) {
            return NONE;
        }
        switch (what) {
            case 0:
                return proposals.state[proposal];
            case 1:
                return proposals.chief[proposal];
            case 2:
                return proposals.redone[proposal];
            case 3:
                return proposals.openedAt[proposal];
            case 4:
                return proposals.hit[proposal] ? 1 : 0;
            default:
                return NONE;
        }
    }

    public int target(int proposal, int name) {
        if (!proposals.isKnown(proposal) || !names.isKnown(name)) {
            return NONE;
        }
        return proposals.raised[proposal][name];
    }

    public int pass(int proposal, boolean good) {
        if (!proposals.isOpen(proposal)) {
            return NONE;
        }
        if (!good) {
            proposals.state[proposal] = FAILED;
            return 0;
        }
        proposals.state[proposal] = LANDED;
        int moves = names.moveUp(proposals.raised[proposal]);
        redoAllTouchedBy(proposal);
        return moves;
    }

    public int open(int repository) {
        return isRepository(repository) ? openIn(repository) : NONE;
    }

    private static boolean isRepository(int repository) {
        return repository >= 0 && repository < REPOSITORIES;
    }

    private boolean isDue(int chief) {
        int last = names.dueAt[chief];
        return last == NONE || names.isUnitHit(chief) || clock - last >= names.leastEvery(chief);
    }

    /** What a run does with one unit that is due. */
    private void review(int chief) {
        int standing = proposals.openOf(chief);
        if (solver.solveUnit(names, chief) <= 0) {
            proposals.closeIfAny(standing, ABANDONED);
            return;
        }
        if (proposals.raisesJust(standing, solver.raised)) {
            return;
        }
        if (proposals.raisesJust(proposals.latestFailedOf(chief), solver.raised)) {
            proposals.closeIfAny(standing, ABANDONED);
            return;
        }
        if (!mayOpen(chief, standing)) {
            waited++;
            return;
        }
        proposals.closeIfAny(standing, REPLACED);
        proposals.add(chief, clock, names.isUnitHit(chief), solver.raised);
    }

    /** A replacement takes its forerunner's place, so the limit does not ask about it. */
    private boolean mayOpen(int chief, int standing) {
        if (proposals.isFull()) {
            return false;
        }
        return standing != NONE
                || names.isUnitHit(chief)
                || openIn(names.repository[chief]) < limit;
    }

    private int openIn(int repository) {
        int found = 0;
        for (int p = 0; p < proposals.count; p++) {
            if (proposals.isOpen(p) && names.repository[proposals.chief[p]] == repository) {
                found++;
            }
        }
        return found;
    }

    private void redoAllTouchedBy(int landed) {
        for (int p = 0; p < proposals.count; p++) {
            if (proposals.isOpen(p) && proposals.overlap(p, landed)) {
                redo(p);
            }
        }
    }

    private void redo(int proposal) {
        int chief = proposals.chief[proposal];
        if (names.isChief(chief) && solver.solveUnit(names, chief) > 0) {
            proposals.setRaised(proposal, solver.raised);
            proposals.redone[proposal]++;
        } else {
            proposals.state[proposal] = ABANDONED;
        }
    }

    /** The names with their versions, needs, rules and advisories, and the units they form. */
    private static final class Names {
        int count;
        final int[] repository;
        final int[] versions;
        final int[] had;
        final int[] allowed;
        final int[] every;
        final int[] group;
        final int[] advised;
        /** By chiefs: the clock when their unit was last due in a run. */
        final int[] dueAt;
        /** The kind of the step that leads up to a version; nothing leads to version 0. */
        final int[][] kind;
        final int[][] needed;
        final int[][] neededLeast;

        Names() {
            count = 0;
            repository = new int[MAX_NAMES];
            versions = new int[MAX_NAMES];
            had = new int[MAX_NAMES];
            allowed = new int[MAX_NAMES];
            every = new int[MAX_NAMES];
            group = new int[MAX_NAMES];
            advised = new int[MAX_NAMES];
            dueAt = new int[MAX_NAMES];
            kind = new int[MAX_NAMES][MAX_VERSIONS];
            needed = new int[MAX_NAMES][MAX_VERSIONS];
            neededLeast = new int[MAX_NAMES][MAX_VERSIONS];
        }

        boolean isKnown(int name) {
            return name >= 0 && name < count;
        }

        boolean hasVersion(int name, int version) {
            return isKnown(name) && version >= 0 && version < versions[name];
        }

        int add(int where) {
            if (count >= MAX_NAMES) {
                return NONE;
            }
            int name = count;
            count++;
            repository[name] = where;
            versions[name] = 1;
            had[name] = 0;
            allowed[name] = KINDS - 1;
            every[name] = 1;
            group[name] = NONE;
            advised[name] = NONE;
            dueAt[name] = NONE;
            needed[name][0] = NONE;
            return name;
        }

        int addVersion(int name, int stepKind) {
            int version = versions[name];
            if (version >= MAX_VERSIONS) {
                return NONE;
            }
            versions[name]++;
            kind[name][version] = stepKind;
            needed[name][version] = NONE;
            return version;
        }

        boolean isHit(int name) {
            return advised[name] != NONE && had[name] <= advised[name];
        }

        int goalOf(int name) {
            int reached = farthestAllowed(name);
            if (!isHit(name) || reached > advised[name]) {
                return reached;
            }
            int behind = advised[name] + 1;
            return behind < versions[name] ? behind : reached;
        }

        int farthestAllowed(int name) {
            int reached = had[name];
            for (int v = reached + 1; v < versions[name] && kind[name][v] <= allowed[name]; v++) {
                reached = v;
            }
            return reached;
        }

        int chiefOf(int name) {
            if (group[name] == NONE) {
                return name;
            }
            for (int n = 0; n < name; n++) {
                if (repository[n] == repository[name] && group[n] == group[name]) {
                    return n;
                }
            }
            return name;
        }

        boolean isChief(int name) {
            return isKnown(name) && chiefOf(name) == name;
        }

        boolean isUnitHit(int chief) {
            for (int n = 0; n < count; n++) {
                if (isHit(n) && chiefOf(n) == chief) {
                    return true;
                }
            }
            return false;
        }

        int leastEvery(int chief) {
            int least = MAX_EVERY;
            for (int n = 0; n < count; n++) {
                if (chiefOf(n) == chief) {
                    least = Math.min(least, every[n]);
                }
            }
            return least;
        }

        /** Takes over every version of the row that is above what is had; how many moved. */
        int moveUp(int[] row) {
            int moves = 0;
            for (int n = 0; n < count && n < row.length; n++) {
                if (row[n] > had[n]) {
                    had[n] = row[n];
                    moves++;
                }
            }
            return moves;
        }
    }

    /** Solves a unit; its rows are written anew by every solving. */
    private static final class Solver {
        /** A target can rise no oftener than there are versions. */
        static final int MAX_RAISES = MAX_NAMES * MAX_VERSIONS;

        final int[] targets;
        /** The targets that are above what is had; NONE for every other name. */
        final int[] raised;

        Solver() {
            targets = new int[MAX_NAMES];
            raised = new int[MAX_NAMES];
        }

        /** How many targets are above what is had, or NO_WAY less the culprit. */
        int solveUnit(Names names, int chief) {
            setOut(names, chief);
            for (int round = 0; round < MAX_RAISES; round++) {
                int needy = firstNeedy(names);
                if (needy == NONE) {
                    break;
                }
                int other = names.needed[needy][targets[needy]];
                int least = names.neededLeast[needy][targets[needy]];
                // Allowed steps reach every version up to the farthest one, and none beyond it.
                if (least > names.farthestAllowed(other)) {
                    return NO_WAY - other;
                }
                targets[other] = least;
            }
            return keepRaised(names);
        }

        private void setOut(Names names, int chief) {
            for (int n = 0; n < names.count; n++) {
                targets[n] = names.chiefOf(n) == chief ? names.goalOf(n) : names.had[n];
            }
        }

        /** The least name that is to rise and needs another one above that one's target. */
        private int firstNeedy(Names names) {
            for (int n = 0; n < names.count; n++) {
                if (targets[n] > names.had[n] && lacksAtTarget(names, n)) {
                    return n;
                }
            }
            return NONE;
        }

        private boolean lacksAtTarget(Names names, int name) {
            int at = targets[name];
            if (at < 0 || at >= MAX_VERSIONS) {
                return false;
            }
            int other = names.needed[name][at];
            return names.isKnown(other) && names.neededLeast[name][at] > targets[other];
        }

        private int keepRaised(Names names) {
            int above = 0;
            for (int n = 0; n < MAX_NAMES; n++) {
                raised[n] = NONE;
                if (n < names.count && targets[n] > names.had[n]) {
                    raised[n] = targets[n];
                    above++;
                }
            }
            return above;
        }
    }

    /** All proposals ever opened, by their numbers. */
    private static final class Proposals {
        int count;
        final int[] state;
        final int[] chief;
        final int[] redone;
        final int[] openedAt;
        final boolean[] hit;
        /** The targets that were above what was had when opened or redone last, else NONE. */
        final int[][] raised;

        Proposals() {
            count = 0;
            state = new int[MAX_PROPOSALS];
            chief = new int[MAX_PROPOSALS];
            redone = new int[MAX_PROPOSALS];
            openedAt = new int[MAX_PROPOSALS];
            hit = new boolean[MAX_PROPOSALS];
            raised = new int[MAX_PROPOSALS][MAX_NAMES];
        }

        boolean isKnown(int proposal) {
            return proposal >= 0 && proposal < count;
        }

        boolean isOpen(int proposal) {
            return isKnown(proposal) && state[proposal] == OPEN;
        }

        boolean isFull() {
            return count >= MAX_PROPOSALS;
        }

        void add(int unitChief, int clock, boolean unitHit, int[] row) {
            if (isFull()) {
                return;
            }
            int proposal = count;
            count++;
            state[proposal] = OPEN;
            chief[proposal] = unitChief;
            redone[proposal] = 0;
            openedAt[proposal] = clock;
            hit[proposal] = unitHit;
            setRaised(proposal, row);
        }

        void setRaised(int proposal, int[] row) {
            for (int n = 0; n < MAX_NAMES && n < row.length; n++) {
                raised[proposal][n] = row[n];
            }
        }

        void closeIfAny(int proposal, int how) {
            if (isKnown(proposal)) {
                state[proposal] = how;
            }
        }

        /** A chief has at most one open proposal: a second one comes only by replacing it. */
        int openOf(int unitChief) {
            return latestOf(unitChief, OPEN);
        }

        int latestFailedOf(int unitChief) {
            return latestOf(unitChief, FAILED);
        }

        private int latestOf(int unitChief, int wanted) {
            for (int p = count - 1; p >= 0; p--) {
                if (chief[p] == unitChief && state[p] == wanted) {
                    return p;
                }
            }
            return NONE;
        }

        boolean raisesJust(int proposal, int[] row) {
            if (!isKnown(proposal)) {
                return false;
            }
            for (int n = 0; n < MAX_NAMES && n < row.length; n++) {
                if (raised[proposal][n] != row[n]) {
                    return false;
                }
            }
            return true;
        }

        boolean overlap(int one, int another) {
            for (int n = 0; n < MAX_NAMES; n++) {
                if (raised[one][n] != NONE && raised[another][n] != NONE) {
                    return true;
                }
            }
            return false;
        }
    }
}
