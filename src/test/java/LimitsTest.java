/** What a text may have at most: 60 tokens and depth 8 (error 1), and error 2; promises 4, 5, 7, 10. */
public final class LimitsTest {
    private static final Check CHECK = new Check("LimitsTest");

    public static void main(String[] args) {
        tokens();
        depth();
        variables();
        arguments();
        goals();
        clauses();
        theLeftmostOne();
        theFirstErrorCountsMore();
        CHECK.end();
    }

    private static void program(String text, int error, int errorAt) {
        HornBench bench = new HornBench();
        CHECK.same("consult " + text, Check.consult(bench, text), error);
        CHECK.same("errorAt of " + text, bench.errorAt(), errorAt);
        CHECK.isTrue("no clauses behind an error of " + text, error == 0 || bench.count(0) == 0);
    }

    private static void question(String text, int error, int errorAt) {
        HornBench bench = new HornBench();
        CHECK.same("ask " + text, Check.ask(bench, text), error);
        CHECK.same("errorAt of " + text, bench.errorAt(), errorAt);
        CHECK.same("status of " + text, bench.status(), error == 0 ? 0 : -1);
    }

    private static void tokens() {
        // X = 1 and 28 times + 1 are 59 tokens, and the . is the 60th.
        String sum = "X=1" + Check.repeat("+1", 28);
        question(sum + ".", 0, -1);
        question(sum + "+1.", 1, 60);
        question(sum + "*1.", 1, 60);
        question("X=1" + Check.repeat("+1", 27) + "+ -1.", 1, 61);
        question("X=-1" + Check.repeat("+1", 28) + ".", 1, 60);
        question(sum + "..", 1, 60);
        question(sum + " \u00ff", 1, 60);
        question(sum, 1, 59);
        question(sum + "+1", 1, 60);
        question(sum + "+ ", 1, 61);
        String list = "a([" + Check.repeat("b,", 26) + "b]).";
        program(list, 0, -1);
        program(list + list + list, 0, -1);
        program(list + " a:-" + sum + ".", 1, list.length() + 62);
        program("a:-X=1" + Check.repeat("+1", 27) + ".", 0, -1);
        program("a:-X=1" + Check.repeat("+1", 28) + ".", 1, 61);
    }

    private static void depth() {
        String[][] nests = {{"(", ")"}, {"[", "]"}, {"f(", ")"}};
        for (String[] nest : nests) {
            String open = nest[0];
            String close = nest[1];
            String eight = Check.repeat(open, 8) + "b" + Check.repeat(close, 8);
            String nine = open + eight + close;
            int last = 8 * open.length() + open.length() - 1;
            question("X=" + eight + ".", 0, -1);
            question("X=" + nine + ".", 1, 2 + last);
            question("X=" + eight + "," + eight + "=Y.", 0, -1);
            question("var(" + eight + ").", 1, 4 + last - open.length());
        }
        question("X=f([(f([(f([b])))]))]).", 1, 17);
        question("X=f([(f([(f([b])))])]).", 1, 17);
        question("X=f([(f([(f([b]))])])).", 1, 19);
        question("X=f([(f([(f([b]))]))]).", 0, -1);
        question("X=f([(f([(f([f(b)]))]))]).", 1, 14);
        question("X=f([(f([(f([[]]))]))]).", 1, 13);
        program("a:-" + Check.repeat("not(", 7) + "b" + Check.repeat(")", 7) + ".", 0, -1);
        program("a:-" + Check.repeat("not(", 8) + "b" + Check.repeat(")", 8) + ".", 2, 35);
        program("a:-" + Check.repeat("not(", 9) + "b" + Check.repeat(")", 9) + ".", 1, 38);
    }

    private static void variables() {
        program("a([A,B,C,D,E,F,G,H]).", 0, -1);
        program("a([A,B,C,D,E,F,G,H,I]).", 2, 19);
        program("a([A,B,C,D,E,F,G,H,A,H]).", 0, -1);
        program("a([A,B,C,D,E,F,G,H,A,Aa]).", 2, 21);
        program("a([_,_,_,_,_,_,_,_]).", 0, -1);
        program("a([_,_,_,_,_,_,_,_,_]).", 2, 19);
        program("a([_a,_,_a,_,_a,_,_a,_,_a,_,_a,_]):-b(_a,_).", 0, -1);
        program("a([_a,_,_a,_,_a,_,_a,_,_a,_,_a,_]):-b(_,_).", 2, 40);
        program("a([A,B,C,D,E,F,G,H]):-I=1.", 2, 22);
        program("a([A,B,C,D,E,F,G,H]). b([I,J,K,L,M,N,O,P]).", 0, -1);
        question("f(A,B,C,D)=f(E,F,G,H).", 0, -1);
        question("f(A,B,C,D)=f(E,F,G,H),I=1.", 2, 22);
        HornBench bench = Check.asked("", "f(X,_,Y,_)=f(_,X,_a,_a).");
        CHECK.same("variables, each _ by itself", bench.count(4), 6);
    }

    private static void arguments() {
        program("a(1,2,3,4).", 0, -1);
        program("a(1,2,3,4,5).", 2, 10);
        program("a(1,2,3,4,(5+6),7).", 2, 10);
        program("a:-b(1,2,3,4, [5]).", 2, 14);
        program("a([f(1,2,3,4,x)]).", 2, 13);
        program("a([1,2,3,4,5,6]).", 0, -1);
        question("X=f(g(1,2,3,4),g(1,2,3,4),3,4).", 0, -1);
        question("X=f(1,2,3,4,-5).", 2, 12);
    }

    private static void goals() {
        program("a:-b,b,b,b,b,b,b,b.", 0, -1);
        program("a:-b,b,b,b,b,b,b,b,b.", 2, 19);
        program("a:-b,b,b,b,b,b,b,b,(1+2)<3.", 2, 19);
        program("a:-not(b,b,b),not(b,b,b).", 0, -1);
        program("a:-not(b,b,b),not(b,b,b),b.", 2, 25);
        program("a:-not(b,b,b,b),not(b,b,b).", 2, 24);
        program("a:-not(b,b,b,b,b,b,b),not(b).", 2, 22);
        program("a:-!,true,fail,var(X),X=1,X is 1,b,X<1.", 0, -1);
        program("a:-!,true,fail,var(X),X=1,X is 1,b,X<1,!.", 2, 39);
        program("a:-b,b,b,b,b,b,b,b. c:-b,b,b,b,b,b,b,b.", 0, -1);
        question("!,!,!,!,!,!,!,!.", 0, -1);
        question("!,!,!,!,!,!,!,!,true,!.", 2, 16);
    }

    private static void clauses() {
        program(Check.repeat("a. ", 40), 0, -1);
        program(Check.repeat("a. ", 40) + " b:-c. d.", 2, 121);
        HornBench bench = Check.bench(Check.repeat("a. ", 38));
        CHECK.same("add the 41st", Check.add(bench, "b. c. d."), 2);
        CHECK.same("errorAt of the 41st", bench.errorAt(), 6);
        CHECK.same("the clauses are as before", bench.count(0), 38);
        CHECK.same("add up to 40", Check.add(bench, "b. c."), 0);
        CHECK.same("40 clauses", bench.count(0), 40);
        CHECK.same("add to 40", Check.add(bench, " b."), 2);
        CHECK.same("errorAt of add to 40", bench.errorAt(), 1);
        CHECK.same("a text that is none, to 40", Check.add(bench, " b. c"), 1);
        CHECK.same("40 clauses are left", bench.count(0), 40);
        CHECK.same("drop makes room", bench.drop(7), 39);
        CHECK.same("add behind drop", Check.add(bench, "e(X)."), 0);
        CHECK.same("the added one", bench.clause(39, 2), 1);
        CHECK.same("consult counts from 0", Check.consult(bench, Check.repeat("a.", 40)), 0);
    }

    private static void theLeftmostOne() {
        program("a(1,2,3,4,5):-b([A,B,C,D,E,F,G,H,I]).", 2, 10);
        program("a([A,B,C,D,E,F,G,H,I]):-b(1,2,3,4,5).", 2, 19);
        program("a:-b,b,b,b,b,b,b,b,b(1,2,3,4,5).", 2, 19);
        program("a(1,2,3,4,5,6,7,8).", 2, 10);
        program(Check.repeat("a.", 40) + "b(1,2,3,4,5).", 2, 80);
        program("a(1,2,3,4,f(1,2,3,4,5)).", 2, 10);
    }

    private static void theFirstErrorCountsMore() {
        program("a(1,2,3,4,5). b", 1, 15);
        program("a([A,B,C,D,E,F,G,H,I]). b(;).", 1, 26);
        program(Check.repeat("a.", 50) + "?", 1, 100);
        question("b,b,b,b,b,b,b,b,b. c", 1, 19);
    }
}
