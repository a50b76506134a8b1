import java.util.function.Consumer;

/**
 * "A method that throws an exception changes nothing": two benches do the same, but one of them is
 * asked for everything that it has to refuse ahead of each call. Both must answer alike all along.
 */
public final class RefusedTest {
    private static final Check CHECK = new Check("RefusedTest");

    private static final String LONG = "w(0,X,X). w(N,X,Y):-N>0,M is N-1,w(M,f(a,X),Y). p(1). p(2). p(3).";

    private static HornBench plain;
    private static HornBench bothered;

    public static void main(String[] args) {
        programs();
        fullTape();
        questions();
        longTexts();
        whichIsThrown();
        CHECK.end();
    }

    private static void begin() {
        plain = new HornBench();
        bothered = new HornBench();
        refuse("new");
    }

    private static void both(String what, Consumer<HornBench> call) {
        call.accept(plain);
        call.accept(bothered);
        refuse("behind " + what);
        CHECK.same("digest behind " + what, bothered.digest(), plain.digest());
        CHECK.same("errorAt behind " + what, bothered.errorAt(), plain.errorAt());
        for (int k = 0; k < plain.count(4); k++) {
            for (int j = 0; j < plain.count(4); j++) {
                CHECK.isTrue("isSame behind " + what, bothered.isSame(k, j) == plain.isSame(k, j));
            }
        }
    }

    private static void type(String text) {
        both("typing " + text, bench -> Check.type(bench, text));
    }

    /** Everything that a bench has to refuse as it stands. */
    private static void refuse(String what) {
        HornBench bench = bothered;
        Class<IllegalArgumentException> argument = IllegalArgumentException.class;
        Class<IllegalStateException> state = IllegalStateException.class;
        Class<IndexOutOfBoundsException> index = IndexOutOfBoundsException.class;
        if (bench.count(2) > 1980) {
            CHECK.fails("feed " + what, bench, state, () -> bench.feed(-1, 0x612e612e, 3, 0x612e612e, 5));
        }
        for (int n : new int[] {-1, Integer.MIN_VALUE, bench.count(2) + 1, 2001, Integer.MAX_VALUE}) {
            CHECK.fails("trim(" + n + ") " + what, bench, argument, () -> bench.trim(n));
        }
        for (int n : new int[] {-1, Integer.MIN_VALUE, bench.count(0), 40, Integer.MAX_VALUE}) {
            CHECK.fails("drop(" + n + ") " + what, bench, index, () -> bench.drop(n));
            CHECK.fails("clause(" + n + ", 0) " + what, bench, index, () -> bench.clause(n, 0));
        }
        for (int n : new int[] {-1, Integer.MIN_VALUE, 4, Integer.MAX_VALUE}) {
            CHECK.fails("clause(0, " + n + ") " + what, bench, index, () -> bench.clause(0, n));
        }
        for (int n : new int[] {-1, Integer.MIN_VALUE, 9, Integer.MAX_VALUE}) {
            CHECK.fails("count(" + n + ") " + what, bench, index, () -> bench.count(n));
        }
        for (int n : new int[] {-1, Integer.MIN_VALUE, 0, 501, Integer.MAX_VALUE}) {
            CHECK.fails("run(" + n + ") " + what, bench, argument, () -> bench.run(n));
        }
        for (int n : new int[] {-1, Integer.MIN_VALUE, bench.count(4), 8, Integer.MAX_VALUE}) {
            CHECK.fails("write(" + n + ") " + what, bench, index, () -> bench.write(n));
            CHECK.fails("number(" + n + ") " + what, bench, index, () -> bench.number(n));
            CHECK.fails("isSame(0, " + n + ") " + what, bench, index, () -> bench.isSame(0, n));
            CHECK.fails("isSame(" + n + ", 0) " + what, bench, index, () -> bench.isSame(n, 0));
        }
        for (int n : new int[] {-1, Integer.MIN_VALUE, bench.count(3), 600, Integer.MAX_VALUE}) {
            CHECK.fails("byteAt(" + n + ") " + what, bench, index, () -> bench.byteAt(n));
        }
        if (bench.status() == -1) {
            CHECK.fails("run(1) " + what, bench, state, () -> bench.run(1));
            CHECK.fails("run(500) " + what, bench, state, () -> bench.run(500));
            CHECK.fails("writeGoal " + what, bench, state, bench::writeGoal);
        }
    }

    private static void programs() {
        begin();
        type("p(1). p(X):-not(q(X,Y),!),");
        type(" X<3.\nq(_,2). p(3):-p(1),p(3).");
        both("consult", HornBench::consult);
        type("p(4). p(5");
        both("trim", bench -> bench.trim(5));
        both("add", HornBench::add);
        both("drop", bench -> bench.drop(1));
        type("p(7), q(");
        both("add with an error", HornBench::add);
        type("p(X),p(Y),X>Y.");
        both("ask", HornBench::ask);
        for (int k = 0; k < 20; k++) {
            both("run", bench -> bench.run(2));
            both("write", bench -> bench.write(0));
        }
        type("a");
        both("consult with an error", HornBench::consult);
        both("ask of nothing", HornBench::ask);
    }

    private static void fullTape() {
        begin();
        for (int k = 0; k < 100; k++) {
            both("feed", bench -> bench.feed(0x702e2020, 0x20202020, 0x20202020, 0x20202020, 0x20202020));
            both("trim", bench -> bench.trim(bench.count(2)));
        }
        both("trim by 1", bench -> bench.trim(1999));
        both("trim by 19", bench -> bench.trim(1981));
        both("consult", HornBench::consult);
        CHECK.same("the last p has no . behind it", bothered.errorAt(), 1981);
    }

    private static void questions() {
        begin();
        type("p(1). p(2). p(3). q(X):-p(X),!. l(X):-l([X]).");
        both("consult", HornBench::consult);
        String[] questions = {"p(X),Y=f(X,Z),not(q(X)),Z=1.", "q(X),!,X\\=Y,Y is X+1.", "p(X),p(Y),Z is X/(Y-2).",
            "l(X).", "fail.", "X=Y,Y=Z.", "p(X),X>2,not(not(p(_),!))."};
        for (String question : questions) {
            type(question);
            both("ask", HornBench::ask);
            for (int k = 0; k < 12; k++) {
                both("run", bench -> bench.run(1 + bench.count(6) % 3));
                refuseNumbers();
                both("writeGoal", HornBench::writeGoal);
            }
            both("run to the end", bench -> bench.run(500));
            both("and further", bench -> bench.run(500));
        }
        type("p(X");
        both("ask with an error", HornBench::ask);
    }

    /** number() of a variable that is none. */
    private static void refuseNumbers() {
        HornBench bench = bothered;
        for (int k = 0; k < bench.count(4); k++) {
            int variable = k;
            String text = Check.written(plain, k);
            bench.write(k);
            if (!text.matches("-?[0-9]+")) {
                CHECK.fails("number of " + text, bench, IllegalStateException.class, () -> bench.number(variable));
            }
        }
    }

    private static void longTexts() {
        begin();
        type(LONG);
        both("consult", HornBench::consult);
        type("p(A),w(119,abcdef,X),Y=f(X),p(B),w(119,abc,Z),q(X,B,Y).");
        both("ask", HornBench::ask);
        both("run", bench -> bench.run(1 + 119 * 3 + 1 + 1));
        both("write of A", bench -> bench.write(0));
        HornBench bench = bothered;
        for (int k = 0; k < 3; k++) {
            CHECK.fails("write of X", bench, IllegalStateException.class, () -> bench.write(1));
            CHECK.fails("write of Y", bench, IllegalStateException.class, () -> bench.write(2));
            both("run", one -> one.run(1));
            both("write of B", one -> one.write(3));
        }
        both("run", one -> one.run(119 * 3 + 1 - 2));
        both("write of Z", one -> one.write(4));
        CHECK.same("q is next", plain.count(5), 1);
        CHECK.fails("writeGoal of q", bench, IllegalStateException.class, bench::writeGoal);
        for (int k = 0; k < 4; k++) {
            both("run", one -> one.run(200));
            both("write", one -> one.write(3));
        }
    }

    /** If several exceptions apply, the one that is named first is thrown. */
    private static void whichIsThrown() {
        HornBench bench = Check.bench("p.");
        for (int steps : new int[] {0, -1, 501, Integer.MIN_VALUE, Integer.MAX_VALUE}) {
            CHECK.fails("run(" + steps + ") without a question", bench, IllegalArgumentException.class,
                () -> bench.run(steps));
        }
        CHECK.fails("run(1) without a question", bench, IllegalStateException.class, () -> bench.run(1));
        CHECK.fails("number(0) without a question", bench, IndexOutOfBoundsException.class, () -> bench.number(0));
        CHECK.fails("write(0) without a question", bench, IndexOutOfBoundsException.class, () -> bench.write(0));
        Check.asked(bench, "X=a.");
        bench.run(1);
        CHECK.fails("number(1), where 0 is none", bench, IndexOutOfBoundsException.class, () -> bench.number(1));
        CHECK.fails("number(0), which is none", bench, IllegalStateException.class, () -> bench.number(0));
    }
}
