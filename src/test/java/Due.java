/** Collects what is not as due; a test ends with end(). */
final class Due {
    private final String name;
    private String about = "";
    private int asked;
    private int wrong;

    Due(String name) {
        this.name = name;
    }

    /** The promise of the document that the next questions are about. */
    void promise(int number) {
        about = "promise " + number;
    }

    /** The sentence of the document's Terms that the next questions are about. */
    void sentence(String words) {
        about = "\"" + words + "\"";
    }

    void is(String call, long got, long want) {
        asked++;
        if (got != want) {
            wrong++;
            if (wrong <= 50) {
                System.out.println(name + ", " + about + ": " + call
                        + " answered " + got + ", due is " + want);
            }
        }
    }

    void holds(String what, boolean is) {
        is(what, is ? 1 : 0, 1);
    }

    /** What told() has of the latest instruction. */
    void told(String what, StepStore x, int acts, int words, int trapped) {
        is(what + ": told(0)", x.told(0), acts);
        is(what + ": told(1)", x.told(1), words);
        is(what + ": told(2)", x.told(2), trapped);
    }

    boolean isClean() {
        return wrong == 0;
    }

    void end() {
        System.out.println(name + ": " + asked + " asked, " + wrong + " not as due");
        if (wrong != 0) {
            System.exit(1);
        }
    }
}
