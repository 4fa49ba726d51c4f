/** The example of README.md answers as it says there. */
public final class ReadmeTest {
    private static final Due DUE = new Due("ReadmeTest");

    public static void main(String[] args) {
        DUE.sentence("README.md says how to use the class");
        StepStore s = new StepStore();
        DUE.is("act(0, 0, 1, 5, 0)", s.act(0, 0, 1, 5, 0), 1);
        DUE.is("act(0, 0, 2, 7, 0)", s.act(0, 0, 2, 7, 0), 2);
        DUE.is("act(0, 2, 3, 1, 2)", s.act(0, 2, 3, 1, 2), 3);
        DUE.is("buses(2)", s.buses(2), 1);
        DUE.is("needs(0, 0, 2)", s.needs(0, 0, 2), 2);
        DUE.is("pack(0)", s.pack(0), 2);
        DUE.is("word(0, 2)", s.word(0, 2), 1);
        DUE.is("run(0, true)", s.run(0, true), 0);
        DUE.is("register(3)", s.register(3), 12);
        DUE.is("beside(0)", s.beside(0), 0);
        DUE.is("store()", s.store(), 2);
        DUE.is("narrow(0)", s.narrow(0), 5);
        DUE.is("code(4, 0)", s.code(4, 0), -1);
        DUE.is("poke(0, 4)", s.poke(0, 4), 1);
        DUE.is("step(10)", s.step(10), 1);
        DUE.is("count(2)", s.count(2), 2);
        DUE.is("width(9, 8)", s.width(9, 8), -3);
        DUE.is("status(BEYOND)", s.status(StepStore.BEYOND), 1);
        DUE.end();
    }
}
