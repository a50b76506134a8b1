/** Promises 8 (count, of the question), 10 (ask), 11 (run), 12 (status) and 18 (stepsEach). */
public final class StepsTest {
    private static final Check CHECK = new Check("StepsTest");

    public static void main(String[] args) {
        asking();
        running();
        wrongSteps();
        clausesInTheirOrder();
        choices();
        goingBackTakesNoStep();
        bindingsAreTakenBack();
        cuts();
        cutsInNots();
        nots();
        errors();
        thousandSteps();
        goalsOfTheRow();
        stepsEach();
        aNewQuestionBeginsAnew();
        asMuchAsThereCanBe();
        manyFailingUnifications();
        notsInNots();
        behindAThousandSteps();
        stepsAtOnce();
        aThousandCuts();
        CHECK.end();
    }

    private static void state(String what, HornBench bench, int status, int goals, int steps, int solutions) {
        CHECK.same(what + ": status", bench.status(), status);
        CHECK.same(what + ": goals", bench.count(5), goals);
        CHECK.same(what + ": steps", bench.count(6), steps);
        CHECK.same(what + ": solutions", bench.count(7), solutions);
    }

    private static void asking() {
        HornBench bench = Check.bench("p(1). p(2).");
        CHECK.same("ask", Check.ask(bench, "p(X),not(p(3),!),p(_)."), 0);
        state("asked", bench, 0, 3, 0, 0);
        CHECK.same("variables", bench.count(4), 2);
        CHECK.same("a ! was not done", bench.count(8), 0);
        CHECK.same("no clause was used", bench.clause(0, 3), 0);
        bench.run(2);
        Check.asked(bench, "p(X).");
        state("asked anew", bench, 0, 1, 0, 0);
        CHECK.same("its variable is free", Check.written(bench, 0), "_0");
        bench.run(1);
        CHECK.same("ask with error 1", Check.ask(bench, "p(X),"), 1);
        state("gone", bench, -1, 0, 0, 0);
        Check.asked(bench, "p(X).");
        CHECK.same("ask with error 2", Check.ask(bench, "p(1,2,3,4,5)."), 2);
        state("gone, too", bench, -1, 0, 0, 0);
        CHECK.same("the clauses stay", bench.count(0), 2);
        CHECK.same("no variables", bench.count(4), 0);
        CHECK.same("no cuts", bench.count(8), 0);
    }

    private static void running() {
        HornBench bench = Check.asked("p(1). p(2). q(X):-p(X),r(X). r(2).", "q(X),true.");
        CHECK.same("1 step", bench.run(1), 1);
        state("1 step", bench, 0, 3, 1, 0);
        CHECK.same("2 steps", bench.run(2), 2);
        state("3 steps", bench, 0, 2, 3, 0);
        CHECK.same("up to the solution", bench.run(500), 3);
        state("solution", bench, 1, 0, 6, 1);
        CHECK.same("nothing is left", bench.run(500), 0);
        state("over", bench, 2, 0, 6, 1);
        CHECK.same("over and over", bench.run(1), 0);
        state("still over", bench, 2, 0, 6, 1);
    }

    private static void wrongSteps() {
        HornBench bench = Check.bench("p.");
        CHECK.fails("run(0), no question", bench, IllegalArgumentException.class, () -> bench.run(0));
        CHECK.fails("run(501), no question", bench, IllegalArgumentException.class, () -> bench.run(501));
        CHECK.fails("run(1), no question", bench, IllegalStateException.class, () -> bench.run(1));
        CHECK.fails("run(500), no question", bench, IllegalStateException.class, () -> bench.run(500));
        Check.asked(bench, "p.");
        int[] wrong = {0, -1, 501, Integer.MAX_VALUE, Integer.MIN_VALUE};
        for (int steps : wrong) {
            CHECK.fails("run(" + steps + ")", bench, IllegalArgumentException.class, () -> bench.run(steps));
        }
        CHECK.same("run(500)", bench.run(500), 1);
        CHECK.fails("run(0) at a solution", bench, IllegalArgumentException.class, () -> bench.run(0));
        state("it stands there still", bench, 1, 0, 1, 1);
    }

    private static void clausesInTheirOrder() {
        String program = "p(3). q(7). p(1). p. p(2,0). p(2). p(X):-q(X).";
        CHECK.same("in their order", Check.solutions(program, "p(X).", 0), "3 1 2 7 2");
        CHECK.same("by their arguments", Check.solutions(program, "p(2,X).", 0), "0 2");
        CHECK.same("an unknown name", Check.solutions(program, "r(X).", 0), "2");
        CHECK.same("an unknown number of arguments", Check.solutions(program, "q,X=1.", 0), "2");
        CHECK.same("no arguments", Check.solutions(program, "p,X=1.", 0), "1 2");
        HornBench bench = Check.asked(program, "r(X).");
        CHECK.same("a goal that fails is a step", bench.run(5), 1);
        state("r", bench, 2, 0, 1, 0);
        bench = Check.asked(program, "fail,true.");
        CHECK.same("fail is a step", bench.run(5), 1);
        CHECK.same("body before the rest", Check.solutions("a(X,Y):-b(X),b(Y). b(1). b(2).", "a(X,Y),Z=[X,Y].", 2),
            "[1,1] [1,2] [2,1] [2,2] 2");
    }

    private static void choices() {
        // A choice for others behind is left though they do not fit, and is then gone without a step.
        HornBench bench = Check.asked("p(1). p(2). p(3).", "p(1).");
        CHECK.same("p(1)", bench.run(9), 1);
        CHECK.same("p(1) anew", bench.run(9), 0);
        state("p(1)", bench, 2, 0, 1, 1);
        bench = Check.asked("p(1,a). p(2,b). p(1,c). p(2,d).", "p(1,X).");
        bench.run(9);
        CHECK.same("the first", Check.written(bench, 0), "a");
        CHECK.same("one that fits", bench.run(9), 1);
        CHECK.same("the second", Check.written(bench, 0), "c");
        CHECK.same("no other one fits", bench.run(9), 0);
        CHECK.same("uses", bench.clause(1, 3) + bench.clause(3, 3), 0);
        CHECK.same("the latest choice first", Check.solutions("p(1). p(2).", "p(X),p(Y),Z=[X,Y].", 2),
            "[1,1] [1,2] [2,1] [2,2] 2");
    }

    private static void goingBackTakesNoStep() {
        HornBench bench = Check.asked("p(1). p(2). p(3). q(3).", "p(X),q(X).");
        CHECK.same("p(X), used", bench.run(1), 1);
        CHECK.same("row", Check.writtenGoal(bench), "q(1)");
        bench.run(1);
        // q(1) failed: the choice of p(X) will go on in the next step.
        state("gone back", bench, 0, 1, 2, 0);
        CHECK.same("to be gone back to first", Check.writtenGoal(bench), "");
        CHECK.same("X is free again", Check.written(bench, 0), "_0");
        bench.run(1);
        state("gone on", bench, 0, 1, 3, 0);
        CHECK.same("X is bound again", Check.written(bench, 0), "2");
        CHECK.same("to the solution", bench.run(500), 3);
        state("solved", bench, 1, 0, 6, 1);
        CHECK.same("each use counts", bench.clause(0, 3) * 100 + bench.clause(1, 3) * 10 + bench.clause(2, 3), 111);
        bench = Check.asked("p(1). p(2).", "p(X),fail.");
        bench.run(3);
        state("both were used", bench, 0, 1, 3, 0);
        CHECK.same("the last step", bench.run(500), 1);
        state("nothing is left", bench, 2, 0, 4, 0);
    }

    private static void bindingsAreTakenBack() {
        HornBench bench = Check.asked("p(f(Y),Y). p(g,h).", "p(X,Z),Z=h,X=g.");
        bench.run(2);
        CHECK.same("bound", Check.written(bench, 0), "f(h)");
        bench.run(1);
        CHECK.same("X, taken back", Check.written(bench, 0), "_0");
        CHECK.same("Z, taken back", Check.written(bench, 1), "_0");
        bench.run(9);
        CHECK.same("X in the end", Check.written(bench, 0), "g");
        bench.run(9);
        CHECK.same("no more solutions", bench.status(), 2);
        CHECK.same("all bindings are taken back", Check.written(bench, 0), "_0");
        bench = Check.asked("p(1).", "X=1,p(Y),Z=f(X,Y),Z=f(1,2).");
        bench.run(500);
        CHECK.same("over", bench.status(), 2);
        for (int k = 0; k < 3; k++) {
            CHECK.same("taken back at the end", Check.written(bench, k), "_0");
        }
    }

    private static void cuts() {
        String program = "p(1). p(2). p(3). a(X):-p(X),!. a(8). b(X):-p(X),c. b(9). c:-!. c. d(X):-!,p(X). d(7)."
            + "e(X):-p(X),X>1,!,p(Y),Y>X. e(6).";
        CHECK.same("its clause's choices and its own", Check.solutions(program, "a(X).", 0), "1 2");
        CHECK.same("not those ahead of it", Check.solutions(program, "p(Y),a(X),Z=[Y,X].", 2),
            "[1,1] [2,1] [3,1] 2");
        CHECK.same("not those of the clause that calls", Check.solutions(program, "b(X).", 0), "1 2 3 9 2");
        CHECK.same("those left behind it stay", Check.solutions(program, "d(X).", 0), "1 2 3 2");
        CHECK.same("in a question: all", Check.solutions(program, "p(X),p(_),!.", 0), "1 2");
        CHECK.same("in a question, amid", Check.solutions(program, "p(X),!,p(Y),Z=[X,Y].", 2),
            "[1,1] [1,2] [1,3] 2");
        CHECK.same("going back over a !", Check.solutions(program, "e(X).", 0), "2 2");
        HornBench bench = Check.asked(program, "a(X),c,!,!.");
        CHECK.same("steps", bench.run(500), 7);
        CHECK.same("each ! that was done", bench.count(8), 4);
        CHECK.same("nothing behind it", bench.run(500), 0);
        CHECK.same("they stay counted", bench.count(8), 4);
        Check.asked(bench, "true.");
        CHECK.same("another question", bench.count(8), 0);
    }

    private static void cutsInNots() {
        String program = "p(1). p(2). p(3). q(X):-p(X),not(p(_),!,fail). q(4). r(X):-not(p(5),!),p(X). r(6)."
            + "s(X):-p(X),not(not(!)). s(7).";
        CHECK.same("a ! in a not stays in it", Check.solutions(program, "q(X).", 0), "1 2 3 4 2");
        CHECK.same("the choice of the not stays", Check.solutions(program, "not(p(X),!,X>1),Y=1.", 1), "1 2");
        CHECK.same("without the !", Check.solutions(program, "not(p(X),X>1),Y=1.", 1), "2");
        CHECK.same("a ! that is not met", Check.solutions(program, "r(X).", 0), "1 2 3 6 2");
        CHECK.same("a not in a not", Check.solutions(program, "s(X).", 0), "1 2 3 7 2");
        CHECK.same("the inner not only", Check.solutions(program, "not(p(X),not(!,fail),X>2),Y=1.", 1), "2");
        HornBench bench = Check.asked(program, "p(X),not(p(_),!,fail).");
        bench.run(4);
        CHECK.same("a ! in a not counts", bench.count(8), 1);
        state("fail in a not", bench, 0, 1, 4, 0);
    }

    private static void nots() {
        String program = "p(1). p(2). q(2). n(X):-p(X),not(q(X)).";
        CHECK.same("not", Check.solutions(program, "n(X).", 0), "1 2");
        CHECK.same("not(fail)", Check.solutions(program, "not(fail),X=1.", 0), "1 2");
        CHECK.same("not(true)", Check.solutions(program, "not(true),X=1.", 0), "2");
        CHECK.same("not of two goals", Check.solutions(program, "p(X),not(p(X),X>1).", 0), "1 2");
        CHECK.same("what a not bound is taken back", Check.solutions(program, "not(not(X=5)).", 0), "_0 2");
        HornBench bench = Check.asked(program, "not(fail),true.");
        bench.run(1);
        state("the goals of the not and the rest, without the mark", bench, 0, 2, 1, 0);
        CHECK.same("first goal", Check.writtenGoal(bench), "fail");
        bench.run(1);
        state("the choice of a not is gone at once", bench, 0, 1, 2, 0);
        CHECK.same("behind the not", Check.writtenGoal(bench), "true");
        bench = Check.asked(program, "not(fail).");
        CHECK.same("a solution without another step", bench.run(500), 2);
        state("not(fail)", bench, 1, 0, 2, 1);
        bench = Check.asked(program, "not(true).");
        CHECK.same("the mark takes no step", bench.run(500), 2);
        state("not(true)", bench, 2, 0, 2, 0);
        bench = Check.asked(program, "not(not(not(not(true)))).");
        CHECK.same("marks behind marks", bench.run(500), 5);
        state("four nots", bench, 1, 0, 5, 1);
        bench = Check.asked(program, "p(X),not(p(_)).");
        bench.run(3);
        state("choices within the not are thrown away", bench, 0, 1, 3, 0);
        CHECK.same("the choice ahead of the not", Check.writtenGoal(bench), "");
        bench.run(500);
        state("both failed", bench, 2, 0, 6, 0);
    }

    private static void errors() {
        HornBench bench = Check.asked("p(1). p(2).", "p(X),Y=3,Z is X/0,true.");
        CHECK.same("the step with the error counts", bench.run(500), 3);
        state("error", bench, 3, 0, 3, 0);
        CHECK.same("X stays bound", Check.written(bench, 0), "1");
        CHECK.same("Y stays bound", Check.written(bench, 1), "3");
        CHECK.same("Z is free", Check.written(bench, 2), "_0");
        CHECK.same("nothing goes on", bench.run(500), 0);
        state("still the error", bench, 3, 0, 3, 0);
        CHECK.same("no goal", Check.writtenGoal(bench), "");
        CHECK.same("in a not, too", Check.solutions("p.", "not(X<1).", 0), "3");
        CHECK.same("behind a solution", Check.solutions("p(1). p(a). p(2).", "p(X),X<5.", 0), "1 3");
        Check.asked(bench, "p(X).");
        CHECK.same("another question", Check.solutions(bench, 0), "1 2 2");
    }

    private static void thousandSteps() {
        HornBench bench = Check.asked("p:-p. q(1). q(2). q(X):-q(X).", "p.");
        CHECK.same("500", bench.run(500), 500);
        state("500", bench, 0, 1, 500, 0);
        CHECK.same("499", bench.run(499), 499);
        CHECK.same("not yet", bench.status(), 0);
        CHECK.same("only 1 of 500", bench.run(500), 1);
        state("1000", bench, 4, 1, 1000, 0);
        CHECK.same("no more", bench.run(500), 0);
        state("still", bench, 4, 1, 1000, 0);
        CHECK.same("the goal that would be next", Check.writtenGoal(bench), "p");
        // c(332) takes 332 times 3 steps and 2, which are 998.
        String count = "c(0):-!. c(N):-N>0,M is N-1,c(M). d(0). d(0).";
        bench = Check.asked(count, "c(332),d(0).");
        Check.runOn(bench);
        state("a solution at step 999", bench, 1, 0, 999, 1);
        bench.run(500);
        state("and another one at 1000", bench, 1, 0, 1000, 2);
        CHECK.same("back from it", bench.run(500), 0);
        state("over", bench, 2, 0, 1000, 2);
        bench = Check.asked(count, "true,c(332),d(0).");
        Check.runOn(bench);
        state("a solution at step 1000", bench, 1, 0, 1000, 1);
        CHECK.same("back from this one", bench.run(500), 0);
        state("it would go on", bench, 4, 0, 1000, 1);
        bench = Check.asked(count, "true,true,c(332),d(0).");
        Check.runOn(bench);
        state("the row at the end", bench, 4, 1, 1000, 0);
        bench = Check.asked(count, "true,true,c(332),fail.");
        Check.runOn(bench);
        CHECK.same("not tried any more", bench.status(), 4);
        bench = Check.asked(count, "true,c(332),fail.");
        Check.runOn(bench);
        state("failed at the end", bench, 2, 0, 1000, 0);
        bench = Check.asked(count, "true,c(332),X<1.");
        Check.runOn(bench);
        state("an error at the end", bench, 3, 0, 1000, 0);
    }

    private static void goalsOfTheRow() {
        HornBench bench = Check.asked("p(1):-q,r,s. p(2):-q. q. q:-r. r.", "p(X),not(q,r),p(Y).");
        CHECK.same("a not is one goal", bench.count(5), 3);
        bench.run(1);
        CHECK.same("the body ahead", bench.count(5), 5);
        bench.run(2);
        CHECK.same("done", bench.count(5), 3);
        bench.run(1);
        // s fails; q has a choice: the row is r, s, not, p(Y), without q.
        CHECK.same("as it was then, without the goal", bench.count(5), 4);
        bench.run(1);
        CHECK.same("with the body of the other clause", bench.count(5), 5);
        bench = Check.asked("q. r.", "not(q,q),not(r).");
        bench.run(1);
        CHECK.same("marks do not count", bench.count(5), 3);
        bench.run(2);
        CHECK.same("over", bench.count(5), 0);
    }

    private static void stepsEach() {
        HornBench bench = Check.asked("p(1). p(2). p(3):-true.", "p(X).");
        CHECK.same("no solutions yet", bench.stepsEach(), 0.0);
        bench.run(1);
        CHECK.same("1 / 1", bench.stepsEach(), 1.0);
        bench.run(1);
        bench.run(1);
        CHECK.same("3 / 2", bench.stepsEach(), 1.5);
        bench.run(1);
        CHECK.same("4 / 3", bench.stepsEach(), 4.0 / 3.0);
        bench.run(1);
        CHECK.same("over", bench.stepsEach(), 4.0 / 3.0);
        bench.drop(0);
        CHECK.same("no question", bench.stepsEach(), 0.0);
        Check.asked(bench, "fail.");
        bench.run(1);
        CHECK.same("steps, but no solutions", bench.stepsEach(), 0.0);
    }

    private static void aNewQuestionBeginsAnew() {
        HornBench bench = Check.asked("p(1). p(2). q(3).", "p(X),q(X).");
        bench.run(2);
        CHECK.same("to be gone back to first", Check.writtenGoal(bench), "");
        Check.asked(bench, "q(Y),p(Z).");
        CHECK.same("the first goal", Check.writtenGoal(bench), "q(_0)");
        CHECK.same("its solution", bench.run(500), 2);
        CHECK.same("Y", bench.number(0), 3);
        CHECK.same("Z", bench.number(1), 1);
        Check.asked(bench, "p(Z),fail.");
        bench.run(1);
        Check.asked(bench, "fail.");
        bench.run(500);
        state("the old choices are gone", bench, 2, 0, 1, 0);
    }

    private static void asMuchAsThereCanBe() {
        HornBench bench = Check.asked("p:-p,p,p,p,p,p,p,p. q:-q,!. q:-p.", "p,p,p,p,p,p,p,p.");
        Check.runOn(bench);
        state("the longest row", bench, 4, 7008, 1000, 0);
        CHECK.same("its first goal", Check.writtenGoal(bench), "p");
        Check.asked(bench, "q.");
        Check.runOn(bench);
        state("as many choices", bench, 4, 1001, 1000, 0);
        bench = Check.asked("n:-not(not(fail,fail,fail,fail),fail),n. m(0). m(N):-M is N-1,m(M).", "n.");
        Check.runOn(bench);
        CHECK.same("as many nots", bench.status(), 4);
        // 334 choices are left and gone back to, one by one, of which none fits.
        bench = Check.asked("m(0,_). m(N,X):-M is N-1,m(M,X). m(_,1):-fail.", "m(300,2),fail.");
        Check.runOn(bench);
        CHECK.same("m(0,2) is tried below 0, on and on", bench.status(), 4);
        bench = Check.asked("c(0,_):-!. c(N,X):-M is N-1,c(M,X). c(_,1):-fail.", "c(330,2),fail.");
        Check.runOn(bench);
        state("all gone", bench, 2, 0, 330 * 2 + 3, 0);
        Check.asked(bench, "c(330,1),fail.");
        Check.runOn(bench);
        state("some go on, up to 1000", bench, 4, 2, 1000, 0);
    }

    private static void manyFailingUnifications() {
        StringBuilder program = new StringBuilder("l(N):-p(X,f(Y,Z,Z),99),M is N+1,l(M).");
        for (int k = 0; k < 38; k++) {
            program.append(" p(A,f(A,B,_),").append(k).append(").");
        }
        program.append(" p(A,_,99).");
        HornBench bench = Check.bench(program.toString());
        for (int k = 1; k <= 9; k++) {
            Check.asked(bench, "l(0),true.");
            Check.runOn(bench);
            state("each goal p tries all clauses", bench, 4, 4, 1000, 0);
            CHECK.same("333 times 3 steps, and one", Check.writtenGoal(bench), "p(_0,f(_1,_2,_2),99)");
            CHECK.same("uses", bench.clause(39, 3), 333 * k);
            CHECK.same("what failed was not used", bench.clause(7, 3), 0);
        }
        Check.asked(bench, "p(f(X),f(Y,_,_),Z),Z>=37.");
        CHECK.same("the last two", Check.solutions(bench, 1), "f(_0) _0 2");
    }

    /** A question of 8 goals, with as many nots one within the other as there is room for. */
    private static void notsInNots() {
        String program = "p(1). p(2). p(3). q(X):-p(X),!. q(4).";
        for (int nots = 1; nots <= 5; nots++) {
            HornBench bench = Check.asked(program, "p(X)," + Check.repeat("not(", nots) + "p(_),!" + Check.repeat(")", nots) + ".");
            boolean holds = nots % 2 == 0;
            CHECK.same(nots + " nots, first", bench.run(500), holds ? nots + 3 : 3 * (nots + 3));
            state(nots + " nots", bench, holds ? 1 : 2, 0, holds ? nots + 3 : 3 * (nots + 3), holds ? 1 : 0);
            CHECK.same(nots + " nots: cuts", bench.count(8), holds ? 1 : 3);
            CHECK.same(nots + " nots: all", Check.solutions(bench, 0), holds ? "2 3 2" : "2");
        }
        for (int nots = 1; nots <= 7; nots++) {
            for (String goal : new String[] {"!", "true", "fail", "q(2)"}) {
                boolean holds = goal.equals("fail") == (nots % 2 == 1);
                HornBench bench = Check.asked(program, Check.repeat("not(", nots) + goal + Check.repeat(")", nots) + ".");
                CHECK.same(nots + " nots of " + goal, bench.run(500), nots + (goal.equals("q(2)") ? 3 : 1));
                CHECK.same(nots + " nots of " + goal + ": status", bench.status(), holds ? 1 : 2);
            }
        }
        CHECK.same("a ! in each not", Check.solutions(program, "p(X),not(!,not(!,not(!,fail))).", 0), "1 2 3 2");
        CHECK.same("a ! behind the nots", Check.solutions(program, "p(X),not(not(p(_))),!,p(Y).", 2), "1 2 3 2");
        CHECK.same("a ! ahead of the nots", Check.solutions(program, "p(X),!,not(not(p(_))),p(Y).", 2), "1 2 3 2");
    }

    /** At the step that is the 1000th, and behind it. */
    private static void behindAThousandSteps() {
        String count = "c(0):-!. c(N):-N>0,M is N-1,c(M). d(0). d(1). e(0).";
        HornBench bench = Check.asked(count, "c(332),d(X),e(X),true.");
        Check.runOn(bench);
        state("a goal is left", bench, 4, 1, 1000, 0);
        CHECK.same("it can be written", Check.writtenGoal(bench), "true");
        CHECK.same("what was bound stays", Check.written(bench, 0), "0");
        CHECK.same("no run goes on", bench.run(1) + bench.run(500), 0);
        bench = Check.asked(count, "c(332),d(X),fail.");
        Check.runOn(bench);
        state("a choice is left", bench, 4, 1, 1000, 0);
        CHECK.same("it is gone back to", Check.written(bench, 0), "_0");
        CHECK.same("no goal is first", Check.writtenGoal(bench), "");
        bench = Check.asked(count, "c(332),d(X),e(X).");
        Check.runOn(bench);
        state("a solution", bench, 1, 0, 1000, 1);
        CHECK.same("stepsEach of it", bench.stepsEach(), 1000.0);
        CHECK.same("back", bench.run(500), 0);
        state("a choice is left behind it, and e(X) behind d(X)", bench, 4, 1, 1000, 1);
        CHECK.same("X is free again", Check.written(bench, 0), "_0");
        CHECK.same("nothing to be written", Check.writtenGoal(bench), "");
        bench = Check.asked(count, "true,c(332),e(X).");
        Check.runOn(bench);
        state("the last one", bench, 1, 0, 1000, 1);
        bench.run(1);
        state("none behind it", bench, 2, 0, 1000, 1);
        bench = Check.asked(count, "c(332),true,not(fail).");
        Check.runOn(bench);
        state("in a not", bench, 4, 1, 1000, 0);
        CHECK.same("the goal in the not", Check.writtenGoal(bench), "fail");
        bench = Check.asked(count, "c(332),not(true).");
        Check.runOn(bench);
        state("a mark takes no step behind the last one", bench, 2, 0, 1000, 0);
        bench = Check.asked(count, "c(332),not(fail).");
        Check.runOn(bench);
        state("nor does what is behind a not", bench, 1, 0, 1000, 1);
        bench = Check.asked(count, "c(332),true,X is 1/0.");
        Check.runOn(bench);
        state("an error at the last step", bench, 3, 0, 1000, 0);
        bench = Check.asked(count, "c(332),true,true,X is 1/0.");
        Check.runOn(bench);
        state("an error that is not come to", bench, 4, 1, 1000, 0);
        bench = Check.asked(count, "c(331),true,true,true.");
        Check.runOn(bench);
        state("999 steps take a third run", bench, 1, 0, 998, 1);
    }

    private static void stepsAtOnce() {
        for (int most : new int[] {1, 2, 3, 7, 499, 500}) {
            HornBench bench = Check.asked("l:-l. s. s:-true. s.", "l.");
            int done = 0;
            for (int left = 1000; left > 0; left -= most) {
                CHECK.same("run(" + most + ")", bench.run(most), Math.min(most, left));
                done += Math.min(most, left);
                state("run(" + most + ")", bench, done < 1000 ? 0 : 4, 1, done, 0);
            }
            Check.asked(bench, "true,s,s,fail.");
            CHECK.same("up to the end", bench.run(most), Math.min(most, 26));
            Check.asked(bench, "true,s,true.");
            CHECK.same("up to a solution", bench.run(most), Math.min(most, 3));
            Check.asked(bench, "true,true,X is a,true.");
            CHECK.same("up to an error", bench.run(most), Math.min(most, 3));
        }
    }

    private static void aThousandCuts() {
        HornBench bench = Check.asked("l:-!,l. l.", "l.");
        Check.runOn(bench);
        state("a ! at each second step", bench, 4, 1, 1000, 0);
        CHECK.same("cuts", bench.count(8), 500);
        Check.asked(bench, "not(not(!,fail)),!.");
        bench.run(500);
        CHECK.same("cuts of another question", bench.count(8), 1);
    }
}
