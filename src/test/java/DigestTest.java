import java.math.BigInteger;

/** Promise 19 (digest). */
public final class DigestTest {
    private static final Check CHECK = new Check("DigestTest");

    public static void main(String[] args) {
        known();
        fromTheCalls();
        CHECK.end();
    }

    /** Computed by hand: 389, nine times 0, and -1. */
    private static void known() {
        long d = 389;
        for (int k = 0; k < 9; k++) {
            d *= 31;
        }
        d = d * 31 - 1;
        CHECK.same("a new object", new HornBench().digest(), d);
    }

    private static void fromTheCalls() {
        HornBench bench = new HornBench();
        CHECK.same("empty", bench.digest(), expected(bench));
        Check.type(bench, "p(1). p(X):-not(q(X),!). q(2). q(_).");
        CHECK.same("with a tape", bench.digest(), expected(bench));
        bench.consult();
        CHECK.same("with clauses", bench.digest(), expected(bench));
        long clauses = bench.digest();
        Check.asked(bench, "p(X),!,Y=f(X,[Z]).");
        CHECK.isTrue("a question changes it", bench.digest() != clauses);
        for (int k = 0; k < 8; k++) {
            bench.run(1);
            CHECK.same("steps", bench.digest(), expected(bench));
            bench.write(1);
            CHECK.same("written", bench.digest(), expected(bench));
            bench.writeGoal();
            CHECK.same("goal written", bench.digest(), expected(bench));
        }
        long before = bench.digest();
        CHECK.same("the digest itself changes nothing", bench.digest(), before);
        bench.drop(1);
        CHECK.same("behind drop", bench.digest(), expected(bench));
    }

    /** Counted without a bound, and cut to 64 bits in the end. */
    private static long expected(HornBench bench) {
        BigInteger d = BigInteger.valueOf(389);
        for (int what = 0; what <= 8; what++) {
            d = next(d, bench.count(what));
        }
        d = next(d, bench.status());
        for (int clause = 0; clause < bench.count(0); clause++) {
            for (int what = 0; what <= 3; what++) {
                d = next(d, bench.clause(clause, what));
            }
        }
        for (int k = 0; k < bench.count(3); k++) {
            d = next(d, bench.byteAt(k));
        }
        return d.longValue();
    }

    private static BigInteger next(BigInteger d, int x) {
        return d.multiply(BigInteger.valueOf(31)).add(BigInteger.valueOf(x));
    }
}
