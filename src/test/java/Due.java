/** Compares answers with what is due, prints every wrong one, and ends the program accordingly. */
final class Due {
    private int wrong;
    private int compared;
    private String part = "";

    void part(String name) {
        part = name;
    }

    void same(String call, long got, long want) {
        compared++;
        if (got != want) {
            wrong++;
            System.out.println(part + ": " + call + " answered " + got + ", due is " + want);
        }
    }

    void yes(String call, boolean got) {
        same(call, got ? 1 : 0, 1);
    }

    void no(String call, boolean got) {
        same(call, got ? 1 : 0, 0);
    }

    int wrong() {
        return wrong;
    }

    void end() {
        System.out.println(compared + " answers compared, " + wrong + " not as due");
        if (wrong != 0 || compared == 0) {
            System.exit(1);
        }
    }
}
