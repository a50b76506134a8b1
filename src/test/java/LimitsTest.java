/** What a text may have at most: 60 tokens and depth 8 (error 1), and error 2; promises 4, 5, 7, 10. */
public final class LimitsTest {
    private static final Check CHECK = new Check("LimitsTest");

    public static void main(String[] args) {
        tokens();
        depth();
        variables();
        arguments();
        goals();
        clauses();
        theLeftmostOne();
        theFirstErrorCountsMore();
        depthEverywhere();
        everyTokenAsThe61st();
        limitsOfAdd();
        whatEndsAtTheLimit();
        CHECK.end();
    }

    private static void program(String text, int error, int errorAt) {
        HornBench bench = new HornBench();
        CHECK.same("consult " + text, Check.consult(bench, text), error);
        CHECK.same("errorAt of " + text, bench.errorAt(), errorAt);
        CHECK.isTrue("no clauses behind an error of " + text, error == 0 || bench.count(0) == 0);
        if (text.length() - text.replace(".", "").length() < 40) {
            HornBench other = Check.bench("z.");
            CHECK.same("add " + text, Check.add(other, text), error);
            CHECK.same("errorAt of add " + text, other.errorAt(), errorAt);
            CHECK.isTrue("the clauses of before are left", error == 0 || other.count(0) == 1);
        }
    }

    private static void question(String text, int error, int errorAt) {
        HornBench bench = new HornBench();
        CHECK.same("ask " + text, Check.ask(bench, text), error);
        CHECK.same("errorAt of " + text, bench.errorAt(), errorAt);
        CHECK.same("status of " + text, bench.status(), error == 0 ? 0 : -1);
    }

    private static void tokens() {
        // X = 1 and 28 times + 1 are 59 tokens, and the . is the 60th.
        String sum = "X=1" + Check.repeat("+1", 28);
        question(sum + ".", 0, -1);
        question(sum + "+1.", 1, 60);
        question(sum + "*1.", 1, 60);
        question("X=1" + Check.repeat("+1", 27) + "+ -1.", 1, 61);
        question("X=-1" + Check.repeat("+1", 28) + ".", 1, 60);
        question(sum + "..", 1, 60);
        question(sum + " \u00ff", 1, 60);
        question(sum, 1, 59);
        question(sum + "+1", 1, 60);
        question(sum + "+ ", 1, 61);
        String list = "a([" + Check.repeat("b,", 26) + "b]).";
        program(list, 0, -1);
        program(list + list + list, 0, -1);
        program(list + " a:-" + sum + ".", 1, list.length() + 62);
        program("a:-X=1" + Check.repeat("+1", 27) + ".", 0, -1);
        program("a:-X=1" + Check.repeat("+1", 28) + ".", 1, 61);
    }

    private static void depth() {
        String[][] nests = {{"(", ")"}, {"[", "]"}, {"f(", ")"}};
        for (String[] nest : nests) {
            String open = nest[0];
            String close = nest[1];
            String eight = Check.repeat(open, 8) + "b" + Check.repeat(close, 8);
            String nine = open + eight + close;
            int last = 8 * open.length() + open.length() - 1;
            question("X=" + eight + ".", 0, -1);
            question("X=" + nine + ".", 1, 2 + last);
            question("X=" + eight + "," + eight + "=Y.", 0, -1);
            question("var(" + eight + ").", 1, 4 + last - open.length());
        }
        question("X=f([(f([(f([b])))]))]).", 1, 17);
        question("X=f([(f([(f([b])))])]).", 1, 17);
        question("X=f([(f([(f([b]))])])).", 1, 19);
        question("X=f([(f([(f([b]))]))]).", 0, -1);
        question("X=f([(f([(f([f(b)]))]))]).", 1, 14);
        question("X=f([(f([(f([[]]))]))]).", 1, 13);
        program("a:-" + Check.repeat("not(", 7) + "b" + Check.repeat(")", 7) + ".", 0, -1);
        program("a:-" + Check.repeat("not(", 8) + "b" + Check.repeat(")", 8) + ".", 2, 35);
        program("a:-" + Check.repeat("not(", 9) + "b" + Check.repeat(")", 9) + ".", 1, 38);
    }

    private static void variables() {
        program("a([A,B,C,D,E,F,G,H]).", 0, -1);
        program("a([A,B,C,D,E,F,G,H,I]).", 2, 19);
        program("a([A,B,C,D,E,F,G,H,A,H]).", 0, -1);
        program("a([A,B,C,D,E,F,G,H,A,Aa]).", 2, 21);
        program("a([_,_,_,_,_,_,_,_]).", 0, -1);
        program("a([_,_,_,_,_,_,_,_,_]).", 2, 19);
        program("a([_a,_,_a,_,_a,_,_a,_,_a,_,_a,_]):-b(_a,_).", 0, -1);
        program("a([_a,_,_a,_,_a,_,_a,_,_a,_,_a,_]):-b(_,_).", 2, 40);
        program("a([A,B,C,D,E,F,G,H]):-I=1.", 2, 22);
        program("a([A,B,C,D,E,F,G,H]). b([I,J,K,L,M,N,O,P]).", 0, -1);
        question("f(A,B,C,D)=f(E,F,G,H).", 0, -1);
        question("f(A,B,C,D)=f(E,F,G,H),I=1.", 2, 22);
        HornBench bench = Check.asked("", "f(X,_,Y,_)=f(_,X,_a,_a).");
        CHECK.same("variables, each _ by itself", bench.count(4), 6);
    }

    private static void arguments() {
        program("a(1,2,3,4).", 0, -1);
        program("a(1,2,3,4,5).", 2, 10);
        program("a(1,2,3,4,(5+6),7).", 2, 10);
        program("a:-b(1,2,3,4, [5]).", 2, 14);
        program("a([f(1,2,3,4,x)]).", 2, 13);
        program("a([1,2,3,4,5,6]).", 0, -1);
        question("X=f(g(1,2,3,4),g(1,2,3,4),3,4).", 0, -1);
        question("X=f(1,2,3,4,-5).", 2, 12);
    }

    private static void goals() {
        program("a:-b,b,b,b,b,b,b,b.", 0, -1);
        program("a:-b,b,b,b,b,b,b,b,b.", 2, 19);
        program("a:-b,b,b,b,b,b,b,b,(1+2)<3.", 2, 19);
        program("a:-not(b,b,b),not(b,b,b).", 0, -1);
        program("a:-not(b,b,b),not(b,b,b),b.", 2, 25);
        program("a:-not(b,b,b,b),not(b,b,b).", 2, 24);
        program("a:-not(b,b,b,b,b,b,b),not(b).", 2, 22);
        program("a:-!,true,fail,var(X),X=1,X is 1,b,X<1.", 0, -1);
        program("a:-!,true,fail,var(X),X=1,X is 1,b,X<1,!.", 2, 39);
        program("a:-b,b,b,b,b,b,b,b. c:-b,b,b,b,b,b,b,b.", 0, -1);
        question("!,!,!,!,!,!,!,!.", 0, -1);
        question("!,!,!,!,!,!,!,!,true,!.", 2, 16);
    }

    private static void clauses() {
        program(Check.repeat("a. ", 40), 0, -1);
        program(Check.repeat("a. ", 40) + " b:-c. d.", 2, 121);
        HornBench bench = Check.bench(Check.repeat("a. ", 38));
        CHECK.same("add the 41st", Check.add(bench, "b. c. d."), 2);
        CHECK.same("errorAt of the 41st", bench.errorAt(), 6);
        CHECK.same("the clauses are as before", bench.count(0), 38);
        CHECK.same("add up to 40", Check.add(bench, "b. c."), 0);
        CHECK.same("40 clauses", bench.count(0), 40);
        CHECK.same("add to 40", Check.add(bench, " b."), 2);
        CHECK.same("errorAt of add to 40", bench.errorAt(), 1);
        CHECK.same("a text that is none, to 40", Check.add(bench, " b. c"), 1);
        CHECK.same("40 clauses are left", bench.count(0), 40);
        CHECK.same("drop makes room", bench.drop(7), 39);
        CHECK.same("add behind drop", Check.add(bench, "e(X)."), 0);
        CHECK.same("the added one", bench.clause(39, 2), 1);
        CHECK.same("consult counts from 0", Check.consult(bench, Check.repeat("a.", 40)), 0);
    }

    private static void theLeftmostOne() {
        program("a(1,2,3,4,5):-b([A,B,C,D,E,F,G,H,I]).", 2, 10);
        program("a([A,B,C,D,E,F,G,H,I]):-b(1,2,3,4,5).", 2, 19);
        program("a:-b,b,b,b,b,b,b,b,b(1,2,3,4,5).", 2, 19);
        program("a(1,2,3,4,5,6,7,8).", 2, 10);
        program(Check.repeat("a.", 40) + "b(1,2,3,4,5).", 2, 80);
        program("a(1,2,3,4,f(1,2,3,4,5)).", 2, 10);
    }

    private static void theFirstErrorCountsMore() {
        program("a(1,2,3,4,5). b", 1, 15);
        program("a([A,B,C,D,E,F,G,H,I]). b(;).", 1, 26);
        program(Check.repeat("a.", 50) + "?", 1, 100);
        question("b,b,b,b,b,b,b,b,b. c", 1, 19);
    }

    /** A text with brackets of all kinds around a place, in which others are put, at depth 0 outside. */
    private static void depthIn(boolean isQuestion, String before, int depth, String behind) {
        String[][] nests = {{"(", ")"}, {"[", "]"}, {"f(", ")"}, {"[a,", "]"}, {"[a|", "]"}, {"f(1,", ")"}, {"1-(", ")"}};
        for (String[] nest : nests) {
            for (int more = 7 - depth; more <= 9 - depth; more++) {
                String text = before + Check.repeat(nest[0], more) + "b" + Check.repeat(nest[1], more) + behind;
                boolean good = depth + more <= 8;
                int ninth = before.length() + (more - 1) * nest[0].length()
                    + Math.max(nest[0].indexOf('('), nest[0].indexOf('['));
                if (isQuestion) {
                    question(text, good ? 0 : 1, good ? -1 : ninth);
                } else {
                    program(text, good ? 0 : 1, good ? -1 : ninth);
                }
            }
        }
    }

    private static void depthEverywhere() {
        depthIn(false, "h(", 1, ").");
        depthIn(false, "h(c,", 1, "):-g.");
        depthIn(false, "h:-g(", 1, ").");
        depthIn(false, "h:-g,X=", 0, ".");
        depthIn(false, "h(a). h:-(a)=(b),", 0, "=X.");
        depthIn(true, "", 0, "=X.");
        depthIn(true, "X is ", 0, ".");
        depthIn(true, "var(", 1, ").");
        depthIn(true, "not(X=", 1, ").");
        depthIn(true, "not(not(var(", 3, "))).");
        depthIn(true, "not(!),not(g(a,", 2, ")).");
        depthIn(true, "X=[(a),(b)|", 1, "].");
        for (int nots = 7; nots <= 9; nots++) {
            String text = Check.repeat("not(", nots);
            String end = Check.repeat(")", nots) + ".";
            // The 9th goal is one too many, but the 9th bracket counts more.
            question(text + "!" + end, nots == 7 ? 0 : nots == 8 ? 2 : 1, nots == 7 ? -1 : nots == 8 ? 32 : 35);
            question(text + "var(X)" + end, nots == 7 ? 0 : 1, nots == 7 ? -1 : 35);
        }
    }

    /** A goal of so many tokens, 3 or more. */
    private static String goalOf(int tokens) {
        return (tokens % 2 == 1 ? "X=1" : "X=-1") + Check.repeat("+1", (tokens - 3) / 2);
    }

    /** As the 60th token it is good, and only the end of the tape comes too soon; as the 61st it is not. */
    private static void tokenAround(String last, String token) {
        int taken = last.length();
        String before = goalOf(59 - taken) + last;
        question(before + token, 1, before.length() + token.length());
        before = goalOf(60 - taken) + last;
        question(before + token, 1, before.length());
        before = "a(Y). b:-" + goalOf(57 - taken) + last;
        program(before + token, 1, before.length() + token.length());
        before = "a(Y). b:-" + goalOf(58 - taken) + last;
        program(before + token, 1, before.length());
    }

    private static void everyTokenAsThe61st() {
        question(goalOf(59) + ".", 0, -1);
        question(goalOf(60) + ".", 1, goalOf(60).length());
        program("a(Y). b:-" + goalOf(57) + ". a(Y).", 0, -1);
        program("a(Y). b:-" + goalOf(58) + ". a(Y).", 1, 9 + goalOf(58).length());
        for (String token : new String[] {"+", "-", "*", "/", "mod", ","}) {
            tokenAround("", token);
        }
        for (String token : new String[] {"Y", "_", "a", "abcdefgh", "1", "123456", "-", "(", "["}) {
            tokenAround("+", token);
        }
        for (String token : new String[] {"!", "true", "fail", "not", "var", "Y", "a", "1", "-", "[", "("}) {
            tokenAround(",", token);
        }
        String list = "a([b" + Check.repeat(",b", 26);
        program(list + "]).", 0, -1);
        program(list + ",b]).", 1, list.length() + 4);
        program(list + "|b]).", 1, list.length() + 4);
        program(list.substring(0, list.length() - 2) + "|b]).", 0, -1);
    }

    private static void limitsOfAdd() {
        for (int there = 38; there <= 40; there++) {
            HornBench bench = Check.bench(Check.repeat("a.", there));
            Check.asked(bench, "a.");
            bench.run(1);
            int error = Check.add(bench, " b. c");
            CHECK.same("a text that is none, behind " + there, error, 1);
            CHECK.same("add of 1 behind " + there, Check.add(bench, " b."), there < 40 ? 0 : 2);
            CHECK.same("errorAt", bench.errorAt(), there < 40 ? -1 : 1);
            CHECK.same("clauses", bench.count(0), Math.min(there + 1, 40));
            CHECK.same("predicates", bench.count(1), there < 40 ? 2 : 1);
            CHECK.same("add of 1 more", Check.add(bench, "c:-d."), there < 39 ? 0 : 2);
            CHECK.same("its errorAt", bench.errorAt(), there < 39 ? -1 : 0);
            CHECK.same("clauses then", bench.count(0), 40);
            CHECK.same("uses stay", bench.clause(0, 3), 1);
        }
        HornBench empty = new HornBench();
        CHECK.same("add of 41", Check.add(empty, Check.repeat("a.", 40) + "\n b."), 2);
        CHECK.same("errorAt of the 41st", empty.errorAt(), 82);
        CHECK.same("none was added", empty.count(0), 0);
        CHECK.same("add of 40", Check.add(empty, Check.repeat("a.", 40) + "\n "), 0);
        CHECK.same("all were added", empty.count(0), 40);
    }

    /** What has as much as it may have is not only read, but does what it should. */
    private static void whatEndsAtTheLimit() {
        HornBench bench = Check.asked("", "X is 1" + Check.repeat("+1", 28) + ".");
        bench.run(1);
        CHECK.same("60 tokens", bench.number(0), 29);
        bench = Check.asked("", "X=f([(f([(f([b]))]))]).");
        bench.run(1);
        CHECK.same("depth 8", Check.written(bench, 0), "f([f([f([b])])])");
        bench = Check.asked("a(A,B,C,D):-b(E,F,G,H),A=1,B=A,C=[A,B],D=E,F=7,G=H,H=8. b(2,F,G,H):-F=7.",
            "a(A,B,C,D),b(E,F,G,H),E==D.");
        bench.run(500);
        CHECK.same("4 arguments", bench.clause(0, 0), 4);
        CHECK.same("8 goals", bench.clause(0, 1), 8);
        CHECK.same("8 variables", bench.clause(0, 2), 8);
        CHECK.same("8 variables of the question", bench.count(4), 8);
        String[] due = {"1", "1", "[1,1]", "2", "2", "7", "_0", "_0"};
        for (int k = 0; k < 8; k++) {
            CHECK.same("4 arguments, 8 variables, 8 goals", Check.written(bench, k), due[k]);
        }
        CHECK.same("steps", bench.run(1) + bench.count(6), 1 + 8 + 1 + 1 + 1 + 1);
        bench = Check.asked("abcdefgh(1). abcdefgi(2). abcdefg(3).",
            "abcdefgh(Abcdefgh),abcdefgi(Abcdefgi),abcdefg(Abcdefg),X=999999,Y= -999999.");
        bench.run(500);
        int[] numbers = {1, 2, 3, 999999, -999999};
        for (int k = 0; k < 5; k++) {
            CHECK.same("names of 8 bytes, numbers of 6 digits", bench.number(k), numbers[k]);
        }
        bench = Check.asked(Check.repeat("p(1).", 39) + "p(2).", "p(2).");
        CHECK.same("the 40th clause", bench.run(1), 1);
        CHECK.same("is used", bench.clause(39, 3), 1);
    }
}
