import java.util.Random;
import java.util.TreeMap;

/** Random runs of calls, each held against Model: the call's answer, and all that can be asked behind it. */
public final class ModelTest {
    private static final int RUNS = 1500;
    private static final int CALLS = 160;
    private static final int[] GOALS = {0, 10, 11, 12, 14, 16, 18, 20, 22, 25, 30, 40, 60, 999};

    private final Random random;
    private final PauseRegions real = new PauseRegions();
    private final Model model;
    private final Expect expect;
    /** How often each of the calls comes, another for each run: so runs differ in kind, too. */
    private final int[] weight = new int[12];
    private final int bigPerHundred;
    private int run;
    private String call = "";

    private ModelTest(int run, TreeMap<String, Integer> seen, Expect expect) {
        this.run = run;
        this.random = new Random(7919L * run + 1);
        this.model = new Model(seen);
        this.expect = expect;
        int[] most = {30, 30, 12, 14, 4, 4, 6, 5, 3, 1, 1, 3};
        for (int i = 0; i < weight.length; i++) {
            weight[i] = i < 4 ? 4 + random.nextInt(most[i]) : random.nextInt(most[i] + 1);
        }
        bigPerHundred = random.nextInt(3) * 12;
    }

    /** Mostly from low to high, now and then wrong. */
    private int some(int low, int high) {
        int way = random.nextInt(400);
        if (way == 0) {
            return low - 1;
        }
        if (way == 1) {
            return high + 1;
        }
        if (way == 2) {
            return random.nextBoolean() ? Integer.MIN_VALUE : Integer.MAX_VALUE;
        }
        return low + random.nextInt(high - low + 1);
    }

    private int someSize() {
        if (random.nextInt(100) < bigPerHundred) {
            return some(5, 24);
        }
        return some(1, 4);
    }

    private int someGoal() {
        return random.nextInt(20) == 0 ? some(0, 999) : GOALS[random.nextInt(GOALS.length)];
    }

    private int pick() {
        int sum = 0;
        for (int w : weight) {
            sum += w;
        }
        int at = random.nextInt(sum);
        for (int i = 0; i < weight.length; i++) {
            at -= weight[i];
            if (at < 0) {
                return i;
            }
        }
        return 0;
    }

    private void due(String name, int got, int want) {
        if (got != want) {
            expect.part("run " + run + ", behind " + call);
        }
        expect.due(name, got, want);
    }

    private void step() {
        int a = some(0, 5);
        int b = random.nextInt(5) == 0 ? -1 : some(0, 5);
        int f = some(0, 1);
        int n = 0;
        switch (pick()) {
            case 0 -> {
                n = someSize();
                call = "makes(" + n + ", " + a + ")";
                due(call, real.makes(n, a), model.makes(n, a));
            }
            case 1 -> {
                call = "writes(" + a + ", " + f + ", " + b + ")";
                due(call, real.writes(a, f, b), model.writes(a, f, b));
            }
            case 2 -> {
                call = "takes(" + a + ", " + b + ", " + f + ")";
                due(call, real.takes(a, b, f), model.takes(a, b, f));
            }
            case 3 -> {
                call = "sets(" + a + ", " + b + ")";
                due(call, real.sets(a, b), model.sets(a, b));
            }
            case 4 -> {
                n = random.nextInt(3) == 0 ? some(1, 20) : 1 + random.nextInt(3);
                call = "refines(" + n + ")";
                due(call, real.refines(n), model.refines(n));
            }
            case 5 -> {
                call = "begins()";
                due(call, real.begins(), model.begins());
            }
            case 6 -> {
                n = random.nextInt(3) == 0 ? some(1, 32) : 1 + random.nextInt(4);
                call = "steps(" + n + ")";
                due(call, real.steps(n), model.steps(n));
            }
            case 7 -> {
                n = someGoal();
                call = "pauses(" + n + ")";
                due("would(" + n + ")", real.would(n), model.would(n));
                due(call, real.pauses(n), model.pauses(n));
            }
            case 8 -> {
                call = "undo()";
                due(call, real.undo(), model.undo());
            }
            case 9 -> {
                n = some(0, 1);
                call = "keep(" + n + ")";
                due(call, real.keep(n), model.keep(n));
            }
            case 10 -> {
                n = some(0, 1);
                call = "back(" + n + ")";
                due(call, real.back(n), model.back(n));
            }
            default -> {
                call = "undo() of all";
                int many = random.nextInt(8);
                for (int i = 0; i < many; i++) {
                    due("undo()", real.undo(), model.undo());
                }
            }
        }
    }

    /** Values just outside what may be asked are asked, too. */
    private void askState() {
        for (int r = -1; r <= 6; r++) {
            due("root(" + r + ")", real.root(r), model.root(r));
        }
        for (int t = -1; t <= 32; t++) {
            for (int what = -1; what <= 6; what++) {
                due("thing(" + t + ", " + what + ")", real.thing(t, what), model.thing(t, what));
            }
        }
        for (int r = -1; r <= 10; r++) {
            for (int what = -1; what <= 5; what++) {
                due("region(" + r + ", " + what + ")", real.region(r, what), model.region(r, what));
            }
            for (int card = -1; card <= 20; card++) {
                due("remembers(" + r + ", " + card + ")", real.remembers(r, card), model.remembers(r, card));
            }
        }
        for (int i = -1; i <= 21; i++) {
            due("dirty(" + i + ")", real.dirty(i), model.dirty(i));
        }
        for (int i = -1; i <= 33; i++) {
            due("grey(" + i + ")", real.grey(i), model.grey(i));
        }
        for (int what = -1; what <= 9; what++) {
            due("count(" + what + ")", real.count(what), model.count(what));
        }
        for (int what = -1; what <= 2; what++) {
            due("learnt(" + what + ")", real.learnt(what), model.learnt(what));
        }
    }

    private void askWhatWouldBe() {
        int goal = random.nextInt(3) == 0 ? some(0, 999) : someGoal();
        due("chooses(" + goal + ")", real.chooses(goal), model.chooses(goal));
        due("foretold(" + goal + ")", real.foretold(goal), model.foretold(goal));
        due("would(" + goal + ")", real.would(goal), model.would(goal));
        for (int what = -1; what <= 2; what++) {
            due("rubbish(" + what + ")", real.rubbish(what), model.rubbish(what));
        }
        int t = some(0, 31);
        for (int k = -2; k <= 10; k++) {
            due("way(" + t + ", " + k + ")", real.way(t, k), model.way(t, k));
        }
    }

    private void whole() {
        for (int i = 0; i < CALLS && expect.wrong() < 20; i++) {
            step();
            askWhatWouldBe();
            askState();
        }
    }

    private static final String[] WANTED = {
        "begins: ends at once", "chooses: an old one", "chooses: several old ones",
        "chooses: the goal cuts behind some", "makes: beside marking", "makes: no number",
        "makes: no room, 1 regions", "makes: no room, 2 regions", "makes: no room, 3 regions",
        "makes: no room, small", "marking: a field becomes nil", "marking: frees BIG", "marking: frees OLD",
        "marking: frees rests", "marking: live known anew", "pauses: a chosen card is not scanned",
        "pauses: beside marking", "pauses: cells are not as numbers", "pauses: copied behind one that stays",
        "pauses: found by a card", "pauses: found by grey", "pauses: one stays in an old region",
        "pauses: some stay", "pauses: some stay, some are copied", "refines: some are left",
        "way: longer than 3", "writes: a card", "writes: a card that is dirty already",
        "writes: keeps what was there"};

    public static void main(String[] args) {
        Expect expect = new Expect();
        TreeMap<String, Integer> seen = new TreeMap<>();
        int runs = args.length > 0 ? Integer.parseInt(args[0]) : RUNS;
        for (int run = 0; run < runs; run++) {
            new ModelTest(run, seen, expect).whole();
        }
        System.out.println("rare cases: " + seen);
        expect.part("rare cases");
        for (String wanted : WANTED) {
            expect.isTrue("runs came to " + wanted, seen.containsKey(wanted));
        }
        for (String what : seen.keySet()) {
            expect.isTrue(what, !what.startsWith("NEVER"));
        }
        expect.end();
    }
}
