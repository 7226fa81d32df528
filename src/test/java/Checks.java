/** Counts and prints what is not as it is due. */
final class Checks {
    private final String name;
    private int made = 0;
    private int wrong = 0;

    Checks(String name) {
        this.name = name;
    }

    void due(String call, long got, long want) {
        made++;
        if (got == want) return;
        wrong++;
        if (wrong <= 50) System.out.println(name + ": " + call + " answered " + got + ", due is " + want);
    }

    boolean failed() {
        return wrong > 0;
    }

    void end() {
        System.out.println(name + ": " + made + " checks, " + wrong + " not as due");
        if (wrong > 0 || made == 0) System.exit(1);
    }
}
