/** Counts the answers that are not as due; a test ends with exit code 1 if there was one. */
final class Check {
    private final String name;
    private int asked;
    private int wrong;

    Check(String name) {
        this.name = name;
    }

    void due(String call, long got, long want) {
        asked++;
        if (got != want) {
            wrong++;
            if (wrong <= 50) {
                System.out.println(name + ": " + call + " answered " + got + ", due is " + want);
            }
        }
    }

    void holds(String what, boolean does) {
        asked++;
        if (!does) {
            wrong++;
            System.out.println(name + ": it does not hold that " + what);
        }
    }

    void end() {
        if (wrong != 0) {
            System.out.println(name + ": " + wrong + " of " + asked + " are not as due");
            System.exit(1);
        }
        System.out.println(name + ": all " + asked + " are as due");
    }
}
