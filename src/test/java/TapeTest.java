/** Promises 1 (a new object), 2 (feed) and 3 (trim). */
public final class TapeTest {
    private static final Check CHECK = new Check("TapeTest");

    public static void main(String[] args) {
        newObject();
        feeding();
        bytesInTheirOrder();
        fullTape();
        trimming();
        emptyBehindReading();
        CHECK.end();
    }

    private static void newObject() {
        HornBench bench = new HornBench();
        for (int what = 0; what <= 8; what++) {
            CHECK.same("new: count(" + what + ")", bench.count(what), 0);
        }
        CHECK.same("new: errorAt", bench.errorAt(), -1);
        CHECK.same("new: status", bench.status(), -1);
        CHECK.same("new: stepsEach", bench.stepsEach(), 0.0);
        CHECK.fails("new: byteAt(0)", bench, IndexOutOfBoundsException.class, () -> bench.byteAt(0));
        CHECK.fails("new: run(1)", bench, IllegalStateException.class, () -> bench.run(1));
        CHECK.fails("new: write(0)", bench, IndexOutOfBoundsException.class, () -> bench.write(0));
        CHECK.fails("new: drop(0)", bench, IndexOutOfBoundsException.class, () -> bench.drop(0));
    }

    private static void feeding() {
        HornBench bench = new HornBench();
        CHECK.same("feed once", bench.feed(1, 2, 3, 4, 5), 20);
        CHECK.same("feed again", bench.feed(0, -1, Integer.MIN_VALUE, Integer.MAX_VALUE, 9), 40);
        CHECK.same("count(2)", bench.count(2), 40);
    }

    private static void bytesInTheirOrder() {
        // "a:-b(c1,[d|E]),f=7.\n": each byte of the five numbers has a place of its own.
        HornBench bench = new HornBench();
        bench.feed(0x613a2d62, 0x2863312c, 0x5b647c45, 0x5d292c66, 0x3d372e0a);
        CHECK.same("consult of fed bytes", bench.consult(), 0);
        Check.add(bench, "b(c1,[d,e]). f.");
        Check.asked(bench, "a.");
        CHECK.same("first goal", Check.writtenGoal(bench), "a");
        bench.run(1);
        CHECK.same("goal of the fed clause", Check.writtenGoal(bench), "b(c1,[d|_0])");
        bench.run(1);
        CHECK.same("next goal of the fed clause", Check.writtenGoal(bench), "f=7");
    }

    private static void fullTape() {
        HornBench bench = new HornBench();
        for (int k = 1; k <= 100; k++) {
            CHECK.same("feed " + k, bench.feed(0x20202020, 0x20202020, 0x20202020, 0, 0), 20 * k);
        }
        CHECK.fails("a full tape", bench, IllegalStateException.class,
            () -> bench.feed(1, 2, 3, 4, 5));
        bench.trim(1981);
        CHECK.fails("1 byte too few", bench, IllegalStateException.class,
            () -> bench.feed(1, 2, 3, 4, 5));
        bench.trim(1980);
        CHECK.same("just enough", bench.feed(1, 2, 3, 4, 5), 2000);
    }

    private static void trimming() {
        HornBench bench = new HornBench();
        CHECK.same("trim of nothing", bench.trim(0), 0);
        CHECK.fails("trim(1) of nothing", bench, IllegalArgumentException.class, () -> bench.trim(1));
        Check.type(bench, "a. b. cd");
        CHECK.fails("trim(-1)", bench, IllegalArgumentException.class, () -> bench.trim(-1));
        CHECK.fails("trim(9)", bench, IllegalArgumentException.class, () -> bench.trim(9));
        CHECK.same("trim to all", bench.trim(8), 8);
        CHECK.same("trim", bench.trim(5), 5);
        CHECK.same("count(2)", bench.count(2), 5);
        CHECK.same("what is left is read", bench.consult(), 0);
        CHECK.same("two clauses are left", bench.count(0), 2);
    }

    private static void emptyBehindReading() {
        HornBench bench = new HornBench();
        Check.consult(bench, "a. b.");
        CHECK.same("behind consult", bench.count(2), 0);
        Check.consult(bench, "a b");
        CHECK.same("behind a consult with an error", bench.count(2), 0);
        Check.add(bench, "a. b.");
        CHECK.same("behind add", bench.count(2), 0);
        Check.add(bench, "a(1,2,3,4,5).");
        CHECK.same("behind an add with an error", bench.count(2), 0);
        Check.ask(bench, "a.");
        CHECK.same("behind ask", bench.count(2), 0);
        Check.ask(bench, "a");
        CHECK.same("behind an ask with an error", bench.count(2), 0);
        CHECK.same("feeding begins anew", bench.feed(0, 0, 0, 0, 0), 20);
    }
}
