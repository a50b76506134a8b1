/** Promises 4 (consult), 5 (add), 6 (drop), 8 (count, of clauses) and 9 (clause). */
public final class ClausesTest {
    private static final Check CHECK = new Check("ClausesTest");

    public static void main(String[] args) {
        consulting();
        adding();
        dropping();
        predicates();
        tellingOfClauses();
        uses();
        wrongNumbers();
        whatWasReadInVain();
        fullAndDropped();
        CHECK.end();
    }

    private static void consulting() {
        HornBench bench = Check.bench("a. b. c.");
        CHECK.same("clauses", bench.count(0), 3);
        Check.consult(bench, "d(X):-e(X).");
        CHECK.same("the old ones are gone", bench.count(0), 1);
        Check.asked(bench, "d(X).");
        CHECK.same("a question", bench.status(), 0);
        Check.consult(bench, "p. q.");
        CHECK.same("the question is gone", bench.status(), -1);
        CHECK.same("its variables are gone", bench.count(4), 0);
        Check.asked(bench, "p.");
        CHECK.same("an error of consult", Check.consult(bench, "p. q"), 1);
        CHECK.same("no clauses behind error 1", bench.count(0), 0);
        CHECK.same("no question behind error 1", bench.status(), -1);
        Check.consult(bench, "p.");
        Check.asked(bench, "p.");
        CHECK.same("one too many", Check.consult(bench, "p. q(1,2,3,4,5)."), 2);
        CHECK.same("no clauses behind error 2", bench.count(0), 0);
        CHECK.same("no question behind error 2", bench.status(), -1);
    }

    private static void adding() {
        HornBench bench = new HornBench();
        CHECK.same("add to nothing", Check.add(bench, "p(1). p(2)."), 0);
        CHECK.same("add", Check.add(bench, "p(3). q."), 0);
        CHECK.same("clauses", bench.count(0), 4);
        Check.asked(bench, "p(X).");
        CHECK.same("in their order", Check.solutions(bench, 0), "1 2 3 2");
        CHECK.same("add with a question", Check.add(bench, "r."), 0);
        CHECK.same("the question is gone", bench.status(), -1);
        Check.asked(bench, "p(X).");
        CHECK.same("add with error 1", Check.add(bench, "s. s"), 1);
        CHECK.same("the question is gone, also behind error 1", bench.status(), -1);
        CHECK.same("clauses as before", bench.count(0), 5);
        Check.asked(bench, "p(X).");
        CHECK.same("add with error 2", Check.add(bench, "s. s(1,2,3,4,5)."), 2);
        CHECK.same("the question is gone, also behind error 2", bench.status(), -1);
        CHECK.same("clauses as before error 2", bench.count(0), 5);
        CHECK.same("all as before", Check.solutions(Check.asked(bench, "p(X),r."), 0), "1 2 3 2");
    }

    private static void dropping() {
        HornBench bench = Check.bench("p(0). p(1). p(2). p(3). p(4).");
        Check.asked(bench, "p(X).");
        CHECK.same("drop", bench.drop(1), 4);
        CHECK.same("the question is gone", bench.status(), -1);
        CHECK.same("clauses", bench.count(0), 4);
        CHECK.same("the others", Check.solutions(Check.asked(bench, "p(X)."), 0), "0 2 3 4 2");
        CHECK.same("drop the last", bench.drop(3), 3);
        CHECK.same("drop the first", bench.drop(0), 2);
        CHECK.same("two are left", Check.solutions(Check.asked(bench, "p(X)."), 0), "2 3 2");
        Check.add(bench, "p(5). p(6):-q(X,Y). q(a,b).");
        CHECK.same("add behind drop", Check.solutions(Check.asked(bench, "p(X)."), 0), "2 3 5 6 2");
        CHECK.fails("drop(5)", bench, IndexOutOfBoundsException.class, () -> bench.drop(5));
        CHECK.fails("drop(-1)", bench, IndexOutOfBoundsException.class, () -> bench.drop(-1));
        CHECK.same("the question stays", bench.status(), 2);
        for (int k = 4; k >= 0; k--) {
            CHECK.same("drop all", bench.drop(0), k);
        }
        CHECK.fails("drop of none", bench, IndexOutOfBoundsException.class, () -> bench.drop(0));
        CHECK.same("errorAt", bench.errorAt(), -1);
    }

    private static void predicates() {
        HornBench bench = Check.bench("p. p(1). p(2). p(1,2). q(1). q(X):-r(X). p:-s.");
        CHECK.same("predicates", bench.count(1), 4);
        bench.drop(3);
        CHECK.same("predicates behind drop", bench.count(1), 3);
        bench.drop(0);
        CHECK.same("p stays", bench.count(1), 3);
        Check.add(bench, "r(1). ab. ba.");
        CHECK.same("predicates behind add", bench.count(1), 6);
    }

    private static void tellingOfClauses() {
        HornBench bench = Check.bench("p. p(X,Y,X):-not(q(X),not(q(_),!)),X<_. r([A,B|A],_,_,C).");
        int[][] due = {{0, 0, 0, 0}, {3, 6, 4, 0}, {4, 0, 5, 0}};
        for (int k = 0; k < due.length; k++) {
            for (int what = 0; what < 4; what++) {
                CHECK.same("clause(" + k + ", " + what + ")", bench.clause(k, what), due[k][what]);
            }
        }
    }

    private static void uses() {
        HornBench bench = Check.bench("p(1). p(2). p(3). q(X):-p(X),X>1. q(9):-fail.");
        Check.solutions(Check.asked(bench, "q(X)."), 0);
        int[] once = {1, 1, 1, 1, 1};
        for (int k = 0; k < 5; k++) {
            CHECK.same("uses of " + k, bench.clause(k, 3), once[k]);
        }
        Check.asked(bench, "p(2).");
        bench.run(1);
        CHECK.same("not used: its head does not fit", bench.clause(0, 3), 1);
        CHECK.same("used twice", bench.clause(1, 3), 2);
        CHECK.same("nothing is left to use", bench.run(5), 0);
        CHECK.same("looking for a clause is no use", bench.clause(2, 3), 1);
        Check.add(bench, "p(4).");
        CHECK.same("add leaves the uses", bench.clause(1, 3), 2);
        CHECK.same("a new one was not used", bench.clause(5, 3), 0);
        Check.add(bench, "p(5");
        CHECK.same("add with an error leaves the uses", bench.clause(1, 3), 2);
        bench.drop(0);
        CHECK.same("its number is 1 less", bench.clause(0, 3), 2);
        Check.asked(bench, "p(2),p(2),p(2).");
        bench.run(500);
        CHECK.same("used in all questions", bench.clause(0, 3), 5);
        Check.consult(bench, "p(2).");
        CHECK.same("a new one, by consult", bench.clause(0, 3), 0);
    }

    private static void wrongNumbers() {
        HornBench bench = Check.bench("p(X). q.");
        Check.asked(bench, "p(X).");
        int[][] wrong = {{2, 0}, {-1, 0}, {0, 4}, {0, -1}, {Integer.MAX_VALUE, 3}, {1, Integer.MIN_VALUE}};
        for (int[] pair : wrong) {
            CHECK.fails("clause(" + pair[0] + ", " + pair[1] + ")", bench,
                IndexOutOfBoundsException.class, () -> bench.clause(pair[0], pair[1]));
        }
        int[] noCounts = {-1, 9, Integer.MAX_VALUE, Integer.MIN_VALUE};
        for (int what : noCounts) {
            CHECK.fails("count(" + what + ")", bench,
                IndexOutOfBoundsException.class, () -> bench.count(what));
        }
    }

    private static void whatWasReadInVain() {
        HornBench bench = Check.bench("p(1). p(2).");
        Check.add(bench, "p(3). q(4). p(");
        CHECK.same("predicates", bench.count(1), 1);
        CHECK.same("no clause of it is used", Check.solutions(Check.asked(bench, "p(X)."), 0), "1 2 2");
        bench.drop(1);
        CHECK.same("nor a dropped one", Check.solutions(Check.asked(bench, "p(X)."), 0), "1 2");
        CHECK.same("predicates behind drop", bench.count(1), 1);
    }

    private static void fullAndDropped() {
        HornBench bench = Check.bench("p(0).");
        StringBuilder due = new StringBuilder("0 ");
        for (int k = 1; k < 40; k++) {
            Check.add(bench, "p(" + k + ").");
            due.append(k).append(' ');
        }
        CHECK.same("40 clauses", Check.solutions(Check.asked(bench, "p(X)."), 0), due + "2");
        int[] dropped = {39, 0, 17, 0, 30};
        for (int clause : dropped) {
            bench.drop(clause);
        }
        for (int k = 50; k < 55; k++) {
            Check.add(bench, "p(" + k + ").");
        }
        // 39, 0, 18, 1 and 33 were dropped.
        StringBuilder left = new StringBuilder();
        for (int k = 2; k < 55; k++) {
            if (k != 18 && k != 33 && (k < 39 || k >= 50)) {
                left.append(k).append(' ');
            }
        }
        CHECK.same("dropped and added", Check.solutions(Check.asked(bench, "p(X)."), 0), left + "2");
        CHECK.same("one too many", Check.add(bench, "p(60)."), 2);
    }
}
