/** Each promise of the document by answers worked out by hand from its words. */
public final class PromisesTest {
    private static final Expect EXPECT = new Expect();

    private static Script on(String part) {
        return new Script(EXPECT, part);
    }

    public static void main(String[] args) {
        newObject();
        makesSmall();
        makesBig();
        makesRefused();
        writes();
        writesBesideMarking();
        takes();
        sets();
        refines();
        begins();
        steps();
        stepsEnd();
        pausesCopy();
        pausesScan();
        pausesStay();
        pausesOneByOne();
        pausesOld();
        pausesBesideMarking();
        undo();
        asked();
        learnt();
        choosesByGain();
        choosesUpToGoal();
        would();
        rubbish();
        way();
        images();
        count();
        lastOfAllCalls();
        EXPECT.end();
    }

    private static void newObject() {
        Script s = on("1 a new object");
        for (int r = 0; r < 10; r++) {
            s.says("region(" + r + ", 0) = 0; region(" + r + ", 1) = 0; region(" + r + ", 2) = NONE",
                "region(" + r + ", 3) = 0; region(" + r + ", 4) = 0");
        }
        for (int t = 0; t < 32; t++) {
            s.says("thing(" + t + ", 0) = NONE");
        }
        s.says("root(0) = NIL; root(1) = NIL; root(2) = NIL; root(3) = NIL; root(4) = NIL; root(5) = NIL",
            "count(0) = 0; count(1) = 10; count(2) = 0; count(3) = 0; count(4) = 0; count(5) = 0; count(6) = 0",
            "count(7) = NONE; count(8) = 0; learnt(0) = 100; learnt(1) = 50; undo() = STATE",
            "back(0) = STATE; back(1) = STATE; dirty(0) = NONE; grey(0) = NONE; rubbish(0) = 0; rubbish(1) = 0");
        PauseRegions one = new PauseRegions();
        PauseRegions other = new PauseRegions();
        one.makes(4, 0);
        EXPECT.due("count(0) of another object", other.count(0), 0);
    }

    private static void makesSmall() {
        on("2 makes: small ones lie in the latest young region").says(
            "makes(1, 0) = 0; thing(0, 0) = 1; thing(0, 1) = 0; thing(0, 2) = 0; thing(0, 3) = NIL; thing(0, 4) = NIL",
            "root(0) = 0; region(0, 0) = 1; region(0, 1) = 1",
            "makes(4, 1) = 1; thing(1, 1) = 0; thing(1, 2) = 1; region(0, 1) = 5",
            "makes(4, 2) = 2; thing(2, 1) = 1; thing(2, 2) = 0",
            "makes(3, 3) = 3; thing(3, 1) = 1; thing(3, 2) = 4; region(0, 1) = 5",
            "makes(1, 4) = 4; thing(4, 1) = 1; thing(4, 2) = 7; region(1, 1) = 8",
            "makes(1, 5) = 5; thing(5, 1) = 2; thing(5, 2) = 0; count(2) = 3",
            "makes(2, 5) = 6; root(5) = 6; thing(5, 0) = 1");
        on("2 makes: behind a pause in a region of its own").says(
            "makes(1, 0) = 0; pauses(0) = 11; thing(0, 1) = 1; makes(1, 1) = 1; thing(1, 1) = 0; thing(1, 2) = 0",
            "region(0, 0) = 1; region(1, 0) = 2; region(1, 1) = 1");
        on("2 makes: never in an old region").says(
            "makes(8, 5) = 0; makes(1, 0) = 1; sets(5, -1) = 0; begins() = 1; steps(1) = 0; pauses(0) = 11",
            "thing(1, 1) = 0; region(0, 1) = 1; makes(1, 1) = 0; thing(0, 1) = 1; thing(0, 2) = 0; region(0, 0) = 2");
        on("2 makes: a number used again has no fields of its own").says(
            "makes(1, 0) = 0; makes(1, 1) = 1; writes(1, 0, 0) = 0; writes(1, 1, 0) = 0; sets(1, -1) = 1",
            "pauses(0) = 11; thing(1, 0) = NONE; makes(2, 1) = 1; thing(1, 0) = 2; thing(1, 3) = NIL; thing(1, 4) = NIL");
        on("2 makes: black beside marking").says(
            "makes(1, 0) = 0; begins() = 1; makes(1, 1) = 1; makes(9, 2) = 2; thing(1, 5) = 2; thing(2, 5) = 2",
            "thing(0, 5) = 1; count(4) = 1");
    }

    private static void makesBig() {
        on("2 makes: big ones").says(
            "makes(5, 0) = 0; thing(0, 1) = 0; region(0, 0) = 3; region(0, 1) = 8; region(1, 0) = 0",
            "makes(8, 1) = 1; thing(1, 1) = 1; region(2, 0) = 0",
            "makes(9, 2) = 2; thing(2, 1) = 2; thing(2, 2) = 0; region(2, 0) = 3; region(3, 0) = 4; region(3, 1) = 8",
            "region(3, 3) = 0; region(2, 3) = 1; makes(16, 3) = 3; thing(3, 1) = 4; region(6, 0) = 0",
            "makes(17, 4) = 4; thing(4, 1) = 6; region(6, 0) = 3; region(7, 0) = 4; region(8, 0) = 4; region(9, 0) = 0",
            "makes(9, 5) = FULL; makes(24, 5) = FULL; root(5) = NIL; count(0) = 5; makes(8, 5) = 5; thing(5, 1) = 9",
            "makes(1, 0) = FULL; makes(5, 0) = FULL; makes(0, 0) = BAD");
        on("2 makes: 24 needs three, 25 is refused").says(
            "makes(24, 0) = 0; count(1) = 7; region(2, 0) = 4; region(3, 0) = 0; makes(25, 0) = BAD");
        on("2 makes: the lowest row that is long enough").says(
            "makes(8, 0) = 0; makes(8, 1) = 1; makes(8, 2) = 2; makes(8, 3) = 3; sets(1, -1) = 1; begins() = 3",
            "steps(32) = 0; region(1, 0) = 0; makes(9, 1) = 1; thing(1, 1) = 4; makes(8, 4) = 4; thing(4, 1) = 1",
            "makes(24, 5) = 5; thing(5, 1) = 6; makes(4, 5) = 6; thing(6, 1) = 9");
        on("2 makes: a big one lies from cell 0 on, whatever had its number").says(
            "makes(1, 0) = 0; makes(1, 1) = 1; thing(1, 2) = 1; sets(1, -1) = 1; pauses(0) = 11; makes(8, 1) = 1",
            "thing(1, 2) = 0; thing(1, 1) = 0");
        on("2 makes: four cells are small, five are big").says(
            "makes(4, 0) = 0; region(0, 0) = 1; makes(5, 1) = 1; region(1, 0) = 3; makes(4, 2) = 2; thing(2, 1) = 0");
    }

    private static void makesRefused() {
        Script s = on("2 makes: no number is left");
        for (int t = 0; t < 32; t++) {
            s.says("makes(1, " + t % 6 + ") = " + t);
        }
        s.says("makes(1, 0) = FULL; makes(5, 0) = FULL; makes(25, 0) = BAD; root(0) = 30; count(1) = 6; count(0) = 32");
        on("2 makes: BAD").says(
            "makes(0, 0) = BAD; makes(-1, 0) = BAD; makes(25, 0) = BAD; makes(1, -1) = BAD; makes(1, 6) = BAD",
            "makes(MIN, 0) = BAD; makes(MAX, 0) = BAD; makes(1, MIN) = BAD; makes(1, MAX) = BAD; count(8) = 0");
    }

    private static void writes() {
        on("3 writes: into a young one no card is dirty").says(
            "makes(4, 0) = 0; makes(4, 1) = 1; makes(4, 2) = 2; writes(0, 0, 2) = 0; thing(0, 3) = 2; thing(0, 4) = NIL",
            "writes(0, 1, 1) = 0; thing(0, 4) = 1; writes(2, 0, 2) = 0; thing(2, 3) = 2; writes(0, 0, -1) = 0",
            "thing(0, 3) = NIL; writes(0, 1, 3) = 0; thing(0, 4) = NIL; count(3) = 0");
        on("3 writes: into a big one").says(
            "makes(8, 0) = 0; makes(1, 1) = 1; makes(9, 2) = 2; writes(0, 0, 0) = 0; writes(0, 0, -1) = 0",
            "writes(0, 0, 3) = 0; count(3) = 0; writes(2, 0, 1) = 1; writes(0, 1, 1) = 1; writes(2, 1, 0) = 0",
            "count(3) = 2; dirty(0) = 4; dirty(1) = 0; dirty(2) = NONE; writes(1, 0, 0) = 0; count(3) = 2");
        on("3 writes: into old ones, by the card of the first cell").says(
            "makes(3, 0) = 0; makes(4, 1) = 1; makes(1, 2) = 2; pauses(0) = 18; thing(0, 1) = 1; thing(1, 2) = 3",
            "thing(2, 2) = 7; dirty(0) = 2; dirty(1) = 3; dirty(2) = NONE; refines(20) = 2; makes(1, 3) = 3",
            "writes(0, 0, 1) = 0; writes(2, 0, 3) = 1; dirty(0) = 3; writes(1, 1, 3) = 1; dirty(1) = 2",
            "writes(0, 1, 3) = 0; writes(2, 1, 3) = 0; dirty(0) = 3; dirty(1) = 2; count(3) = 2");
        on("3 writes: refused").says(
            "writes(0, 0, 0) = STATE; writes(0, 2, 0) = BAD; writes(0, -1, 0) = BAD; writes(6, 0, 0) = BAD",
            "writes(-1, 0, 0) = BAD; writes(0, 0, 6) = BAD; writes(0, 0, -2) = BAD; writes(0, 0, MAX) = BAD",
            "writes(MIN, 0, 0) = BAD; writes(0, 0, -1) = STATE; count(8) = 0; makes(1, 1) = 0; writes(0, 1, 1) = STATE");
    }

    private static void writesBesideMarking() {
        on("3 writes: what was there becomes grey").says(
            "makes(1, 0) = 0; makes(1, 1) = 1; makes(1, 2) = 2; writes(0, 0, 1) = 0; writes(0, 1, 2) = 0",
            "sets(1, -1) = 1; sets(2, -1) = 2; begins() = 1; thing(1, 5) = 0; writes(0, 1, 0) = 0; count(4) = 2",
            "grey(0) = 0; grey(1) = 2; thing(2, 5) = 1; writes(0, 0, 0) = 0; grey(2) = 1; grey(3) = NONE",
            "writes(0, 0, -1) = 0; count(4) = 3; steps(1) = 2; writes(0, 1, -1) = 0; count(4) = 2; steps(9) = 0");
        on("3 writes: none becomes grey where marking does not go on").says(
            "makes(1, 0) = 0; makes(1, 1) = 1; writes(0, 0, 1) = 0; writes(0, 0, -1) = 0; count(4) = 0; grey(0) = NONE",
            "thing(1, 5) = NONE; sets(1, -1) = 1; begins() = 1; grey(0) = 0; grey(1) = NONE");
    }

    private static void takes() {
        on("4 takes").says(
            "makes(1, 0) = 0; makes(1, 1) = 1; makes(1, 2) = 2; writes(0, 0, 1) = 0; writes(0, 1, 2) = 0",
            "takes(3, 0, 0) = 1; root(3) = 1; takes(3, 0, 1) = 2; root(3) = 2; takes(4, 1, 0) = NIL; root(4) = NIL",
            "takes(0, 0, 1) = 2; root(0) = 2; takes(0, 0, 0) = NIL; root(0) = NIL; takes(0, 0, 0) = STATE");
        on("4 takes: refused").says(
            "takes(0, 0, 0) = STATE; takes(0, 0, 2) = BAD; takes(0, 0, -1) = BAD; takes(6, 0, 0) = BAD",
            "takes(-1, 0, 0) = BAD; takes(0, 6, 0) = BAD; takes(0, -1, 0) = BAD; takes(MAX, 0, 0) = BAD; count(8) = 0");
    }

    private static void sets() {
        on("5 sets").says(
            "sets(0, -1) = NIL; makes(1, 0) = 0; makes(1, 1) = 1; sets(2, 0) = NIL; root(2) = 0; sets(2, 1) = 0",
            "root(2) = 1; sets(2, 2) = 1; root(2) = 1; sets(2, 3) = 1; root(2) = NIL; sets(0, -1) = 0; root(0) = NIL",
            "count(0) = 2; count(8) = 6");
        on("5 sets: refused").says(
            "sets(6, 0) = BAD; sets(-1, 0) = BAD; sets(0, 6) = BAD; sets(0, -2) = BAD; sets(0, MIN) = BAD; count(8) = 0");
    }

    private static void refines() {
        on("6 refines").says(
            "makes(8, 0) = 0; makes(8, 1) = 1; makes(8, 2) = 2; makes(1, 3) = 3; writes(0, 0, 1) = 1",
            "writes(0, 1, 3) = 0; writes(1, 0, 3) = 1; writes(1, 1, 1) = 0; writes(2, 0, 0) = 1",
            "region(3, 4) = 0; refines(2) = 2; count(3) = 1; dirty(0) = 4",
            "remembers(1, 0) = 1; remembers(3, 0) = 1; remembers(3, 2) = 1; region(3, 4) = 2; region(1, 4) = 1",
            "remembers(1, 2) = 0; remembers(0, 4) = 0; refines(20) = 1; remembers(0, 4) = 1; refines(1) = STATE",
            "writes(0, 0, 3) = 1; refines(1) = 1; remembers(1, 0) = 1; region(3, 4) = 2");
        on("6 refines: what the fields are as it is refined").says(
            "makes(8, 0) = 0; makes(1, 1) = 1; makes(8, 2) = 2; writes(0, 0, 1) = 1; writes(0, 0, 2) = 0",
            "refines(1) = 1; region(1, 4) = 0; remembers(2, 0) = 1");
        on("6 refines: all things on the card").says(
            "makes(1, 0) = 0; makes(3, 1) = 1; makes(4, 2) = 2; pauses(0) = 18; makes(1, 3) = 3; makes(8, 4) = 4",
            "writes(1, 0, 3) = 0; writes(0, 0, 4) = 0; writes(2, 0, 2) = 0; refines(1) = 1; remembers(0, 2) = 1",
            "remembers(2, 2) = 1; dirty(0) = 3; refines(1) = 1; remembers(0, 3) = 0; region(1, 4) = 0");
        on("6 refines: refused").says(
            "refines(1) = STATE; refines(0) = BAD; refines(21) = BAD; refines(-1) = BAD; refines(MAX) = BAD; count(8) = 0",
            "makes(8, 0) = 0; makes(8, 1) = 1; writes(0, 0, 1) = 1; refines(21) = BAD; refines(0) = BAD; count(3) = 1");
    }

    private static void begins() {
        on("7 begins").says(
            "makes(1, 5) = 0; makes(1, 0) = 1; makes(1, 1) = 2; makes(1, 2) = 3; sets(3, 0) = NIL; sets(2, -1) = 3",
            "begins() = 3; grey(0) = 1; grey(1) = 2; grey(2) = 0; thing(3, 5) = 0; thing(0, 5) = 1; count(5) = 1",
            "begins() = STATE; steps(32) = 0; thing(0, 5) = NONE; begins() = 3; thing(0, 5) = 1; thing(3, 5) = 0");
        on("7 begins: it ends at once").says(
            "makes(9, 0) = 0; makes(1, 1) = 1; writes(1, 0, 0) = 0; sets(0, -1) = 0; sets(1, -1) = 1; begins() = 0",
            "count(5) = 0; region(0, 0) = 0; region(1, 0) = 0; region(1, 1) = 0; thing(0, 0) = NONE",
            "region(2, 0) = 1; thing(1, 0) = 1; thing(1, 3) = NIL; count(8) = 6; undo() = 5; thing(1, 3) = 0");
    }

    private static void steps() {
        on("8 steps: field 0, then 1, the oldest first").says(
            "makes(1, 0) = 0; makes(1, 1) = 1; makes(1, 2) = 2; makes(1, 3) = 3; writes(0, 0, 2) = 0",
            "writes(0, 1, 1) = 0; writes(2, 0, 3) = 0; writes(2, 1, 0) = 0; sets(1, -1) = 1; sets(2, -1) = 2",
            "sets(3, -1) = 3; begins() = 1; steps(1) = 2; thing(0, 5) = 2; grey(0) = 2; grey(1) = 1; steps(1) = 2",
            "thing(2, 5) = 2; grey(0) = 1; grey(1) = 3; thing(0, 5) = 2; steps(2) = 0; count(5) = 0; grey(0) = NONE",
            "count(4) = 0; steps(1) = STATE");
        on("8 steps: refused").says(
            "steps(1) = STATE; steps(0) = BAD; steps(33) = BAD; steps(-1) = BAD; steps(MIN) = BAD; count(8) = 0",
            "makes(1, 0) = 0; begins() = 1; steps(33) = BAD; steps(0) = BAD; steps(32) = 0");
    }

    private static void stepsEnd() {
        on("8 steps: live is known, empty regions become free").says(
            "makes(4, 0) = 0; makes(2, 1) = 1; makes(4, 2) = 2; makes(17, 3) = 3; makes(8, 4) = 4; pauses(0) = 20",
            "thing(0, 1) = 6; thing(1, 1) = 6; thing(2, 1) = 7; region(6, 1) = 6; region(6, 2) = NONE",
            "writes(3, 0, 4) = 1; writes(4, 0, 3) = 1; writes(4, 1, 2) = 0; refines(20) = 5; region(7, 4) = 1",
            "remembers(7, 10) = 1; remembers(5, 4) = 1; writes(3, 1, 2) = 1; makes(1, 5) = 5; thing(5, 1) = 0",
            "writes(5, 0, 3) = 0; writes(5, 1, 0) = 0; sets(5, -1) = 5; sets(1, -1) = 1; sets(2, -1) = 2",
            "sets(3, -1) = 3; writes(4, 0, -1) = 0; writes(4, 1, -1) = 0; begins() = 2; steps(2) = 0",
            "region(6, 2) = 4; region(6, 1) = 6; region(6, 3) = 2; region(7, 0) = 0; region(7, 1) = 0; region(7, 2) = NONE",
            "region(7, 4) = 0; region(2, 0) = 0; region(3, 0) = 0; region(4, 0) = 0; region(4, 1) = 0; region(5, 0) = 3",
            "region(5, 2) = NONE; remembers(5, 4) = 0; count(3) = 0; thing(3, 0) = NONE; thing(2, 0) = NONE",
            "thing(1, 0) = 2; thing(5, 0) = 1; thing(5, 3) = NIL; thing(5, 4) = 0; region(0, 0) = 1; region(0, 2) = NONE");
        on("8 steps: rests at the upper end become free, too").says(
            "makes(24, 0) = 0; makes(24, 1) = 1; makes(16, 2) = 2; makes(16, 3) = 3; count(1) = 0; sets(3, -1) = 3",
            "begins() = 3; steps(3) = 0; region(8, 0) = 0; region(9, 0) = 0; region(7, 0) = 4; count(1) = 2");
        on("8 steps: no card of a region that became free is dirty").says(
            "makes(4, 0) = 0; makes(4, 1) = 1; makes(1, 2) = 2; pauses(0) = 19; dirty(0) = 4; dirty(1) = 5; dirty(2) = 6",
            "sets(0, -1) = 0; sets(1, -1) = 1; begins() = 1; steps(1) = 0; dirty(0) = 6; count(3) = 1");
        on("8 steps: live is known anew as marking ends again").says(
            "makes(4, 0) = 0; makes(2, 1) = 1; pauses(0) = 16; begins() = 2; steps(2) = 0; region(1, 2) = 6",
            "sets(1, -1) = 1; region(1, 2) = 6; begins() = 1; region(1, 2) = 6; steps(1) = 0; region(1, 2) = 4");
    }

    private static void pausesCopy() {
        on("9 pauses: copies what is found, frees the rest").says(
            "makes(2, 3) = 0; makes(2, 1) = 1; makes(2, 5) = 2; makes(2, 0) = 3; makes(2, 2) = 4; makes(2, 4) = 5",
            "writes(3, 0, 5) = 0; writes(3, 1, 2) = 0; writes(2, 0, 4) = 0; sets(2, -1) = 4; sets(4, -1) = 5",
            "sets(5, -1) = 2; sets(0, -1) = 3; pauses(0) = 20",
            "thing(1, 1) = 2; thing(1, 2) = 0; thing(0, 1) = 2; thing(0, 2) = 2; thing(2, 2) = 4; thing(4, 2) = 6",
            "thing(5, 1) = 3; thing(5, 2) = 0; thing(3, 0) = NONE; region(0, 0) = 0; region(1, 0) = 0; region(0, 1) = 0",
            "region(2, 0) = 2; region(2, 1) = 8; region(3, 1) = 2; region(2, 2) = NONE; root(3) = 0; thing(0, 3) = 2",
            "thing(0, 4) = 4; thing(4, 3) = 5; dirty(0) = 4; dirty(1) = 5; dirty(2) = 6; dirty(3) = NONE",
            "count(6) = 1; count(7) = 20; count(2) = 0");
        on("9 pauses: each is found once").says(
            "makes(3, 0) = 0; sets(1, 0) = NIL; writes(0, 0, 0) = 0; writes(0, 1, 0) = 0; pauses(0) = 13",
            "thing(0, 3) = 0; thing(0, 4) = 0; region(1, 1) = 3; count(3) = 1");
        on("9 pauses: big ones stay where they are").says(
            "makes(9, 0) = 0; makes(9, 1) = 1; sets(1, -1) = 1; pauses(999) = 10; thing(0, 1) = 0; thing(1, 0) = 9");
        on("9 pauses: refused").says(
            "pauses(-1) = BAD; pauses(1000) = BAD; pauses(MIN) = BAD; pauses(MAX) = BAD; count(8) = 0; count(6) = 0",
            "count(7) = NONE; pauses(999) = 10; pauses(0) = 10; count(6) = 2");
    }

    private static void pausesScan() {
        on("9 pauses: by cards, things by cells").says(
            "makes(1, 1) = 0; makes(1, 0) = 1; pauses(0) = 12; thing(1, 2) = 0; thing(0, 2) = 1; makes(1, 2) = 2",
            "makes(1, 3) = 3; makes(1, 4) = 4; writes(1, 0, 2) = 0; writes(0, 1, 3) = 0; writes(0, 0, 4) = 0",
            "sets(2, -1) = 2; sets(3, -1) = 3; sets(4, -1) = 4; would(0) = 15; pauses(0) = 15; thing(4, 1) = 2",
            "thing(4, 2) = 0; thing(3, 2) = 1; thing(2, 2) = 2; dirty(0) = 4; dirty(1) = 2; dirty(2) = NONE",
            "learnt(0) = 116; remembers(0, 2) = 0; refines(20) = 2; remembers(2, 2) = 1");
        on("9 pauses: cards from the lowest on").says(
            "makes(8, 0) = 0; makes(8, 1) = 1; makes(1, 2) = 2; makes(1, 3) = 3; writes(1, 0, 2) = 1",
            "writes(0, 0, 3) = 1; sets(2, -1) = 2; sets(3, -1) = 3; pauses(0) = 16; thing(3, 2) = 0; thing(2, 2) = 1",
            "dirty(0) = 6; dirty(1) = 0; dirty(2) = 2; dirty(3) = NONE");
        on("9 pauses: roots ahead of cards").says(
            "makes(8, 0) = 0; makes(1, 1) = 1; makes(1, 2) = 2; writes(0, 0, 1) = 1; sets(1, -1) = 1; pauses(0) = 14",
            "thing(2, 2) = 0; thing(1, 2) = 1");
        on("9 pauses: what was remembered is scanned though it leads there no more").says(
            "makes(8, 0) = 0; makes(1, 1) = 1; writes(0, 0, 1) = 1; refines(1) = 1; writes(0, 0, -1) = 0",
            "sets(1, -1) = 1; pauses(0) = 12; count(0) = 1; dirty(0) = 0; learnt(0) = 100; learnt(1) = 37");
        on("9 pauses: rubbish that is remembered is kept").says(
            "makes(8, 0) = 0; makes(2, 1) = 1; writes(0, 0, 1) = 1; sets(0, -1) = 0; sets(1, -1) = 1; rubbish(0) = 2",
            "pauses(0) = 14; thing(1, 1) = 2; rubbish(0) = 2");
    }

    private static void pausesStay() {
        on("9 pauses: some stay").says(
            "makes(24, 5) = 0; makes(24, 5) = 1; makes(8, 5) = 2; makes(4, 0) = 3; makes(3, 1) = 4; makes(4, 2) = 5",
            "makes(1, 3) = 6; makes(1, 4) = 7; writes(4, 0, 2) = 0; writes(2, 1, 4) = 0; sets(4, -1) = 7",
            "makes(1, 4) = 8; writes(3, 0, 4) = 0; sets(4, -1) = 8; count(1) = 1; region(8, 1) = 7; pauses(0) = 33",
            "thing(3, 1) = 9; thing(4, 1) = 9; thing(4, 2) = 4; thing(5, 1) = 8; thing(5, 2) = 0; thing(6, 1) = 9",
            "thing(6, 2) = 7; thing(7, 1) = 8; thing(7, 2) = 5; thing(8, 1) = 8; thing(8, 2) = 6; region(9, 0) = 2",
            "region(9, 1) = 8; region(7, 0) = 0; region(7, 1) = 0; region(8, 0) = 2; region(8, 1) = 7",
            "region(8, 3) = 3; region(8, 2) = NONE; dirty(0) = 18; dirty(1) = 19; dirty(2) = 16; dirty(3) = 17",
            "dirty(4) = NONE; learnt(0) = 116; learnt(1) = 62; count(1) = 1; makes(1, 4) = 9; thing(9, 1) = 7");
        on("9 pauses: rubbish beside one that stays is no more").says(
            "makes(24, 5) = 0; makes(24, 4) = 1; makes(24, 3) = 2; makes(2, 0) = 3; makes(4, 1) = 4; makes(1, 2) = 5",
            "makes(5, 2) = FULL; count(1) = 0; writes(0, 0, 1) = 0; sets(0, -1) = 3; sets(2, -1) = 5; pauses(0) = 15",
            "thing(3, 0) = NONE; thing(5, 0) = NONE; thing(4, 1) = 9; thing(4, 2) = 2; region(9, 0) = 2",
            "region(9, 1) = 7; region(9, 3) = 1; dirty(0) = 18; dirty(1) = NONE; makes(1, 0) = FULL; begins() = 4",
            "steps(4) = 0; region(9, 2) = 4; chooses(14) = 0; chooses(15) = 512; pauses(15) = 15; region(9, 2) = NONE; chooses(999) = 0");
    }

    private static void pausesOneByOne() {
        on("9 pauses: what stayed in one pause may be no more in the next").says(
            "makes(24, 5) = 0; makes(24, 4) = 1; makes(24, 3) = 2; makes(2, 0) = 3; pauses(0) = 15; thing(3, 1) = 9",
            "sets(0, -1) = 3; begins() = 3; steps(3) = 0; region(9, 0) = 0; makes(2, 0) = 3; region(9, 0) = 1",
            "sets(0, -1) = 3; pauses(0) = 10; thing(3, 0) = NONE; region(9, 0) = 0");
        threeOldRegions("9 pauses: what was found in old regions does not tell of yield").says(
            "makes(4, 1) = 6; sets(1, -1) = 6; chooses(17) = 9; pauses(17) = 14; learnt(0) = 100; learnt(1) = 46");
    }

    private static void pausesOld() {
        on("9 pauses: old regions, too").says(
            "makes(4, 0) = 0; makes(4, 1) = 1; makes(1, 2) = 2; makes(3, 3) = 3; writes(2, 0, 0) = 0; pauses(0) = 22",
            "thing(0, 1) = 2; thing(2, 1) = 3; refines(20) = 3; remembers(2, 6) = 1; sets(1, -1) = 1; sets(3, -1) = 3",
            "begins() = 2; steps(2) = 0; region(2, 2) = 4; region(3, 2) = 1; learnt(0) = 100; chooses(14) = 4",
            "pauses(14) = 16; thing(0, 1) = 0; thing(1, 0) = NONE; thing(3, 0) = 3; region(2, 0) = 0; dirty(0) = 0",
            "dirty(1) = 6; region(3, 2) = 1; learnt(0) = 112; learnt(1) = 62; refines(2) = 2; remembers(0, 6) = 1");
        on("9 pauses: cards of chosen regions are not scanned").says(
            "makes(4, 0) = 0; makes(4, 1) = 1; makes(1, 2) = 2; makes(3, 3) = 3; writes(2, 0, 0) = 0; pauses(0) = 22",
            "sets(1, -1) = 1; sets(3, -1) = 3; begins() = 2; steps(2) = 0; chooses(15) = 12; foretold(15) = 1500",
            "pauses(15) = 15; count(0) = 2; thing(0, 1) = 0; thing(2, 1) = 0; thing(2, 2) = 4; count(1) = 9",
            "dirty(0) = 0; dirty(1) = 1; dirty(2) = NONE");
    }

    private static void pausesBesideMarking() {
        on("9 pauses: grey ones are found").says(
            "makes(1, 0) = 0; makes(1, 1) = 1; makes(1, 2) = 2; begins() = 3; makes(1, 3) = 3; sets(0, -1) = 0",
            "sets(2, -1) = 2; pauses(0) = 14; thing(1, 2) = 0; thing(3, 2) = 1; thing(0, 2) = 2; thing(2, 2) = 3",
            "grey(0) = 0; grey(1) = 1; grey(2) = 2; thing(0, 5) = 1; thing(3, 5) = 2; rubbish(0) = 2; steps(3) = 0",
            "region(1, 2) = 4; region(1, 0) = 2");
        on("9 pauses: white ones stay white").says(
            "makes(1, 0) = 0; makes(2, 1) = 1; writes(0, 0, 1) = 0; sets(1, -1) = 1; begins() = 1; pauses(0) = 13",
            "thing(1, 1) = 1; thing(1, 5) = 0; thing(0, 5) = 1; steps(1) = 1; steps(1) = 0; region(1, 2) = 3");
    }

    private static void undo() {
        on("10 undo: six are known").says(
            "makes(1, 0) = 0; makes(1, 1) = 1; sets(2, 0) = NIL; writes(0, 0, 1) = 0; takes(3, 0, 0) = 1; begins() = 2",
            "steps(1) = 1; count(8) = 6; undo() = 5; count(4) = 2; thing(0, 5) = 1; undo() = 4; count(5) = 0",
            "thing(0, 5) = NONE; undo() = 3; root(3) = NIL; undo() = 2; thing(0, 3) = NIL; undo() = 1; root(2) = NIL",
            "undo() = 0; root(1) = NIL; thing(1, 0) = NONE; region(0, 1) = 1; undo() = STATE; root(0) = 0; count(8) = 0",
            "makes(1, 4) = 1; thing(1, 2) = 1; undo() = 0");
        on("10 undo: a pause").says(
            "makes(8, 0) = 0; makes(4, 1) = 1; makes(2, 2) = 2; writes(0, 0, 1) = 1; sets(2, -1) = 2; pauses(5) = 16",
            "learnt(0) = 112; undo() = 5; learnt(0) = 100; learnt(1) = 50; count(6) = 0; count(7) = NONE; count(3) = 1",
            "region(1, 0) = 1; region(1, 1) = 6; region(1, 4) = 0; thing(2, 0) = 2; thing(1, 1) = 1; makes(2, 2) = 3",
            "thing(3, 1) = 1; thing(3, 2) = 6; undo() = 5; undo() = 4; root(2) = 2; undo() = 3; count(3) = 0");
        on("10 undo: refining, and what is refused is not known").says(
            "makes(8, 0) = 0; makes(8, 1) = 1; writes(0, 0, 1) = 1; refines(1) = 1; refines(1) = STATE; steps(1) = STATE",
            "makes(0, 0) = BAD; pauses(-1) = BAD; sets(9, 9) = BAD; takes(0, 5, 0) = STATE; writes(5, 0, 0) = STATE",
            "keep(0) = 2; rubbish(0) = 0; would(3) = 10; count(8) = 4; undo() = 3; remembers(1, 0) = 0; dirty(0) = 0");
        on("10 undo: calls that change nothing are known, too").says(
            "sets(0, 0) = NIL; count(8) = 1; begins() = 0; count(8) = 2; undo() = 1; undo() = 0; undo() = STATE");
    }

    private static void asked() {
        on("11 root").says("root(-1) = BAD; root(6) = BAD; root(MIN) = BAD; root(MAX) = BAD; root(5) = NIL",
            "makes(1, 5) = 0; makes(1, 0) = 1; root(5) = 0; root(0) = 1; root(4) = NIL");
        on("12 thing").says("thing(-1, 0) = BAD; thing(32, 0) = BAD; thing(0, -1) = BAD; thing(0, 6) = BAD",
            "thing(MAX, 0) = BAD; thing(0, MIN) = BAD; thing(31, 5) = NONE; makes(3, 0) = 0; makes(2, 1) = 1",
            "writes(1, 0, 0) = 0; writes(1, 1, 1) = 0; thing(1, 0) = 2; thing(1, 1) = 0; thing(1, 2) = 3; thing(1, 3) = 0",
            "thing(1, 4) = 1; thing(1, 5) = NONE; thing(1, 6) = BAD; sets(0, -1) = 0; sets(1, -1) = 1; makes(1, 2) = 2",
            "begins() = 1; thing(0, 5) = 0; thing(2, 5) = 1; makes(1, 3) = 3; thing(3, 5) = 2; thing(4, 5) = NONE");
        on("13 region").says("region(-1, 0) = BAD; region(10, 0) = BAD; region(0, -1) = BAD; region(0, 5) = BAD",
            "region(MIN, 0) = BAD; region(0, MAX) = BAD; makes(2, 0) = 0; makes(3, 1) = 1; makes(24, 2) = 2",
            "region(0, 0) = 1; region(0, 1) = 5; region(0, 2) = NONE; region(0, 3) = 2; region(0, 4) = 0",
            "region(1, 0) = 3; region(1, 1) = 8; region(1, 3) = 1; region(3, 0) = 4; region(3, 1) = 8; region(3, 3) = 0",
            "writes(2, 0, 0) = 1; refines(1) = 1; region(0, 4) = 1");
        on("14 remembers").says("remembers(-1, 0) = BAD; remembers(10, 0) = BAD; remembers(0, -1) = BAD",
            "remembers(0, 20) = BAD; remembers(MAX, 0) = BAD; remembers(0, MIN) = BAD; remembers(9, 19) = 0",
            "makes(8, 0) = 0; makes(24, 1) = 1; makes(24, 1) = 2; makes(9, 1) = 3; makes(1, 1) = 4; writes(0, 1, 1) = 1",
            "refines(3) = 1; remembers(9, 0) = 1; remembers(9, 1) = 0; remembers(0, 18) = 0");
        on("15 dirty").says("dirty(-1) = BAD; dirty(MIN) = BAD; dirty(0) = NONE; dirty(MAX) = NONE; makes(8, 0) = 0",
            "makes(8, 1) = 1; writes(1, 0, 0) = 1; writes(0, 0, 1) = 1; dirty(0) = 2; dirty(1) = 0; dirty(2) = NONE",
            "dirty(20) = NONE; dirty(MAX) = NONE; refines(1) = 1; dirty(0) = 0; dirty(1) = NONE");
        on("16 grey").says("grey(-1) = BAD; grey(MIN) = BAD; grey(0) = NONE; grey(MAX) = NONE; makes(8, 0) = 0",
            "makes(8, 1) = 1; begins() = 2; grey(0) = 0; grey(1) = 1; grey(2) = NONE; grey(32) = NONE; steps(1) = 1",
            "grey(0) = 1; grey(1) = NONE; steps(1) = 0; grey(0) = NONE; grey(-1) = BAD");
    }

    private static void learnt() {
        on("17 learnt").says("learnt(-1) = BAD; learnt(2) = BAD; learnt(MAX) = BAD; learnt(MIN) = BAD",
            "makes(8, 0) = 0; makes(3, 1) = 1; writes(0, 0, 1) = 1; makes(4, 2) = 2; sets(2, -1) = 2; pauses(0) = 15",
            // RATE 0.75 + 0.25 * 5 / 3 = 1.1666..., YIELD 0.375 + 0.25 * 3 / 7 = 0.4821...
            "learnt(0) = 116; learnt(1) = 48; pauses(0) = 10; learnt(0) = 116; learnt(1) = 48",
            // YIELD alone is learnt where nothing is found: 0.75 * 0.4821... = 0.3616...
            "makes(1, 2) = 2; sets(2, -1) = 2; pauses(0) = 10; learnt(0) = 116; learnt(1) = 36");
    }

    /** Regions 3, 4 and 5 are old then, of GAINS 4, 3 and 4, RATE is 1, YIELD 0.625. */
    private static Script threeOldRegions(String part) {
        return on(part).says(
            "makes(4, 0) = 0; makes(4, 1) = 1; makes(4, 2) = 2; makes(3, 3) = 3; makes(2, 4) = 4; makes(4, 5) = 5",
            "pauses(0) = 31; chooses(999) = 0; sets(1, -1) = 1; sets(3, -1) = 3; sets(5, -1) = 5; begins() = 3",
            "steps(32) = 0; region(3, 2) = 4; region(4, 2) = 4; region(5, 2) = 2; learnt(0) = 100; learnt(1) = 62");
    }

    private static void choosesByGain() {
        threeOldRegions("18 chooses, 19 foretold, 20 would: by gain").says(
            "chooses(0) = 0; foretold(0) = 1000; would(0) = 10; chooses(13) = 0; foretold(13) = 1000; would(13) = 10",
            "chooses(14) = 8; foretold(14) = 1400; would(14) = 14; chooses(15) = 8; chooses(16) = 40",
            "foretold(16) = 1600; would(16) = 16; chooses(19) = 40; foretold(19) = 1600; chooses(20) = 56",
            "foretold(20) = 2000; would(20) = 20; chooses(999) = 56; foretold(999) = 2000; pauses(16) = 16",
            "thing(0, 1) = 0; thing(4, 1) = 0; thing(2, 1) = 4; region(3, 0) = 0; region(5, 0) = 0; count(0) = 4",
            "thing(3, 0) = 3; chooses(999) = 16");
        threeOldRegions("18 chooses: young ones always, ahead of old ones").says(
            "makes(4, 1) = 6; chooses(0) = 1; foretold(0) = 1250",
            "chooses(16) = 1; chooses(17) = 9; foretold(17) = 1650; chooses(18) = 9; chooses(19) = 41");
    }

    private static void choosesUpToGoal() {
        on("18 chooses: none behind the first that is too long").says(
            "makes(4, 0) = 0; makes(4, 1) = 1; makes(1, 2) = 2; makes(3, 3) = 3; pauses(0) = 22; sets(1, -1) = 1",
            "sets(3, -1) = 3; begins() = 2; steps(2) = 0; region(2, 2) = 4; region(3, 2) = 1; chooses(13) = 0",
            "chooses(11) = 0; chooses(14) = 4; chooses(15) = 12; foretold(15) = 1500; foretold(14) = 1400");
        on("18 chooses: a gain of 1 is too little").says(
            "makes(4, 0) = 0; makes(1, 1) = 1; pauses(0) = 15; sets(1, -1) = 1; begins() = 1; steps(1) = 0",
            "region(1, 1) = 5; region(1, 2) = 4; chooses(999) = 0; foretold(999) = 1000");
        on("18 chooses: a gain of 2 is enough").says(
            "makes(4, 0) = 0; makes(2, 1) = 1; pauses(0) = 16; sets(1, -1) = 1; begins() = 1; steps(1) = 0",
            "region(1, 1) = 6; region(1, 2) = 4; chooses(999) = 2; chooses(14) = 2; chooses(13) = 0");
        on("18, 19, 20: refused").says(
            "chooses(-1) = BAD; chooses(1000) = BAD; chooses(MIN) = BAD; foretold(-1) = BAD; foretold(1000) = BAD",
            "foretold(MAX) = BAD; would(-1) = BAD; would(1000) = BAD; would(MIN) = BAD; chooses(0) = 0; foretold(999) = 1000");
        on("19 foretold: by what was learnt").says(
            "makes(4, 0) = 0; makes(4, 1) = 1; makes(1, 2) = 2; foretold(0) = 1450; chooses(0) = 3; sets(1, -1) = 1",
            "foretold(0) = 1450; pauses(0) = 15; learnt(1) = 51; makes(3, 1) = 1; foretold(5) = 1154");
    }

    private static void would() {
        on("20 would: nothing is changed").says(
            "makes(8, 0) = 0; makes(3, 1) = 1; makes(4, 2) = 2; writes(0, 0, 1) = 1; sets(1, -1) = 1; sets(2, -1) = 2",
            "would(7) = 15; would(7) = 15; count(6) = 0; count(7) = NONE; count(3) = 1; count(0) = 3; learnt(0) = 100",
            "learnt(1) = 50; region(1, 0) = 1; region(1, 4) = 0; thing(1, 1) = 1; count(8) = 6; pauses(7) = 15",
            "undo() = 5; makes(1, 1) = 3; thing(3, 1) = 1; thing(3, 2) = 7");
    }

    private static void rubbish() {
        on("21 rubbish").says("rubbish(-1) = BAD; rubbish(2) = BAD; rubbish(MIN) = BAD; rubbish(MAX) = BAD",
            "makes(1, 0) = 0; makes(2, 1) = 1; makes(3, 2) = 2; makes(17, 3) = 3; writes(1, 1, 2) = 0; writes(2, 0, 1) = 0",
            "rubbish(0) = 0; sets(2, -1) = 2; rubbish(0) = 0; sets(4, 1) = NIL; takes(4, 4, 1) = 2; sets(1, -1) = 1",
            "rubbish(0) = 0; sets(4, -1) = 2; rubbish(0) = 2; rubbish(1) = 5",
            "sets(3, -1) = 3; rubbish(0) = 3; rubbish(1) = 22; pauses(0) = 11; rubbish(0) = 1; rubbish(1) = 17",
            "begins() = 1; steps(1) = 0; rubbish(0) = 0; rubbish(1) = 0");
    }

    private static void way() {
        on("22 way: the first has the lowest number").says(
            "makes(1, 0) = 0; makes(1, 1) = 1; makes(1, 2) = 2; makes(1, 3) = 3; writes(1, 0, 3) = 0; writes(0, 1, 3) = 0",
            "writes(3, 0, 2) = 0; sets(2, -1) = 2; sets(3, -1) = 3; way(2, 0) = 0; way(2, -1) = 3",
            "sets(4, 0) = NIL; sets(0, 1) = 0; way(2, -1) = 3; way(2, 0) = 0; way(2, 1) = 3; way(2, 2) = 2; way(2, 3) = NONE; way(2, MAX) = NONE",
            "way(0, -1) = 1; way(0, 0) = 0; way(0, 1) = NONE; way(3, -1) = 2; way(3, 0) = 0; way(3, 1) = 3");
        on("22 way: then the second").says(
            "makes(1, 0) = 0; makes(1, 1) = 1; makes(1, 2) = 2; makes(1, 3) = 3; writes(0, 0, 2) = 0; writes(0, 1, 1) = 0",
            "writes(1, 0, 3) = 0; writes(2, 0, 3) = 0; sets(1, -1) = 1; sets(2, -1) = 2; sets(3, -1) = 3",
            "way(3, -1) = 3; way(3, 0) = 0; way(3, 1) = 1; way(3, 2) = 3");
        on("22 way: the fewest, be their numbers as they are").says(
            "makes(1, 0) = 0; makes(1, 1) = 1; makes(1, 2) = 2; makes(1, 3) = 3; writes(0, 0, 1) = 0; writes(1, 0, 2) = 0",
            "writes(3, 1, 2) = 0; writes(2, 0, 2) = 0; writes(2, 1, 0) = 0; sets(1, -1) = 1; sets(2, -1) = 2",
            "way(2, -1) = 2; way(2, 0) = 3; way(2, 1) = 2; way(0, -1) = 1",
            "sets(5, 0) = NIL; sets(0, -1) = 0; way(2, 0) = 3; sets(5, -1) = 0; way(0, -1) = 3",
            "way(0, 0) = 3; way(0, 1) = 2; way(0, 2) = 0; way(1, -1) = 4; way(1, 3) = 1");
        on("22 way: not reached, and refused").says(
            "way(0, -1) = BAD; way(0, 0) = BAD; way(-1, 0) = BAD; way(32, 0) = BAD; way(MAX, 0) = BAD; way(MIN, 0) = BAD",
            "makes(1, 0) = 0; makes(1, 1) = 1; writes(0, 0, 1) = 0; sets(0, -1) = 0; way(0, -1) = NONE; way(0, 0) = NONE",
            "way(0, -2) = BAD; way(0, MIN) = BAD; way(1, -2) = BAD; way(1, -1) = 1; way(2, 0) = BAD; way(31, -1) = BAD");
    }

    private static void images() {
        on("23 keep, 24 back").says("keep(-1) = BAD; keep(2) = BAD; keep(MAX) = BAD; back(-1) = BAD; back(2) = BAD",
            "back(MIN) = BAD; back(0) = STATE; back(1) = STATE; makes(8, 0) = 0; makes(2, 1) = 1; writes(0, 0, 1) = 1",
            "keep(0) = 2; count(8) = 3; back(1) = STATE; count(8) = 3; makes(1, 1) = 2; pauses(0) = 15; begins() = 2",
            "keep(1) = 3; back(0) = 2; count(8) = 0; undo() = STATE; count(5) = 0; count(6) = 0; count(7) = NONE",
            "learnt(0) = 100; learnt(1) = 50; dirty(0) = 0; root(1) = 1; thing(1, 1) = 1; thing(2, 0) = NONE",
            "makes(1, 2) = 2; thing(2, 1) = 1; thing(2, 2) = 2; undo() = 0; thing(2, 0) = NONE; back(1) = 3",
            "count(5) = 1; count(6) = 1; count(7) = 15; learnt(0) = 116; grey(0) = 0; thing(2, 5) = 1; region(1, 0) = 0",
            "steps(9) = 0; back(1) = 3; count(4) = 2; back(0) = 2; back(0) = 2");
        on("23 keep: an image is kept anew, undone or not").says(
            "keep(0) = 0; makes(1, 0) = 0; keep(0) = 1; undo() = 0; count(0) = 0; back(0) = 1; root(0) = 0; keep(0) = 1");
    }

    private static void count() {
        on("25 count").says("count(-1) = BAD; count(9) = BAD; count(MIN) = BAD; count(MAX) = BAD",
            "makes(1, 0) = 0; makes(17, 1) = 1; makes(4, 2) = 2; makes(4, 3) = 3; count(0) = 4; count(1) = 5; count(2) = 2",
            "writes(1, 0, 0) = 1; count(3) = 1; count(4) = 0; count(5) = 0; begins() = 4; count(4) = 4; count(5) = 1",
            "steps(4) = 0; count(4) = 0; count(5) = 0; count(6) = 0; count(7) = NONE; pauses(50) = 21; count(6) = 1",
            "count(7) = 21; count(2) = 0; count(3) = 3; count(1) = 5; pauses(50) = 10; count(6) = 2; count(7) = 10",
            "count(8) = 6; undo() = 5; count(8) = 5");
    }

    /** An object is used for at most 512 calls: the last ones are answered as the first. */
    private static void lastOfAllCalls() {
        Script s = on("the 512th call");
        for (int call = 1; call <= 504; call++) {
            s.says("pauses(0) = 10");
        }
        s.says("count(6) = 504; undo() = 5; undo() = 4; undo() = 3; undo() = 2; undo() = 1; undo() = 0; count(6) = 498");
    }
}
