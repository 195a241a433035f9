/** Counts the answers of a test that are not as due, and ends the test by its exit code. */
final class Expect {
    private final boolean tells;
    private String part = "";
    private long asked = 0;
    private int wrong = 0;

    Expect() {
        this(true);
    }

    private Expect(boolean tells) {
        this.tells = tells;
    }

    /** One that only counts. */
    static Expect silent() {
        return new Expect(false);
    }

    /** Names what the answers that follow are about. */
    void part(String name) {
        part = name;
    }

    void due(String call, int got, int want) {
        asked++;
        if (got != want) {
            tellWrong(call + " answered " + got + ", due is " + want);
        }
    }

    void isTrue(String what, boolean holds) {
        due(what, holds ? 1 : 0, 1);
    }

    void tellWrong(String what) {
        wrong++;
        if (tells) {
            System.out.println(part + ": " + what);
        }
    }

    int wrong() {
        return wrong;
    }

    void end() {
        System.out.println(asked + " answers, " + wrong + " not as due");
        if (wrong != 0) {
            System.exit(1);
        }
    }
}
