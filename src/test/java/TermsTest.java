/** Unification, values and comparisons, by promises 11 (run), 16 (number) and 17 (isSame). */
public final class TermsTest {
    private static final Check CHECK = new Check("TermsTest");

    public static void main(String[] args) {
        unification();
        occursCheck();
        clausesHaveNewVariables();
        apartAndSame();
        free();
        values();
        wrapAround();
        valuesThatAreNone();
        comparisons();
        sixtyOperators();
        sixtyOfEach();
        sixtyOnEachSide();
        valuesOfManyClauses();
        numbers();
        isSame();
        sharedTerms();
        deepTerms();
        manyLongLists();
        veryLongLists();
        argumentsOfNames();
        CHECK.end();
    }

    private static void solved(String question, int variable, String due) {
        CHECK.same(question, Check.solutions("p. p(_,X,X).", question, variable), due + " 2");
    }

    private static void holds(String question, boolean due) {
        HornBench bench = Check.asked("p.", question);
        bench.run(500);
        CHECK.same(question, bench.status(), due ? 1 : 2);
    }

    private static void wrong(String question) {
        HornBench bench = Check.asked("p.", question);
        bench.run(500);
        CHECK.same(question, bench.status(), 3);
    }

    private static void unification() {
        solved("X=1.", 0, "1");
        solved("1=X.", 0, "1");
        solved("X=Y,Y=a.", 0, "a");
        solved("X=Y,X=a.", 1, "a");
        solved("X=Y,Z=Y,W=Z,W=7.", 0, "7");
        solved("f(X,b)=f(a,Y).", 1, "b");
        solved("f(X,g(X))=f(Y,Z),Y=1.", 2, "g(1)");
        solved("[1,2,3]=[X|Y].", 1, "[2,3]");
        solved("[X,Y]=[1|Z],Z=[W],W=4.", 1, "4");
        solved("1+2*3=X+Y.", 1, "2*3");
        solved("X=X.", 0, "_0");
        solved("p(a,X,b).", 0, "b");
        solved("f(X,X)=f(Y,3),Z=Y.", 2, "3");
        holds("1=1.", true);
        holds("1=2.", false);
        holds("1=a.", false);
        holds("1= -1.", false);
        holds("0= -0.", true);
        holds("007=7.", true);
        holds("a=a.", true);
        holds("a=b.", false);
        holds("ab=a.", false);
        holds("a=a(1).", false);
        holds("f(1)=f(1,1).", false);
        holds("f(1,2)=f(1,3).", false);
        holds("f(1,2,3,4)=f(1,2,3,4).", true);
        holds("f(1,2,3,4)=f(1,2,3,5).", false);
        holds("f(X,X)=f(1,2).", false);
        holds("1+1=2.", false);
        holds("1+1=1-1.", false);
        holds("1 mod 2=1 mod 2.", true);
        holds("[]=[].", true);
        holds("[]=[X].", false);
        holds("[1,2]=[1|[2|[]]].", true);
        holds("[1,2|X]=[1|[2|X]].", true);
        holds("2-1-1=(2-1)-1.", true);
        holds("2-1-1=2-(1-1).", false);
        holds("2*3+4=(2*3)+4.", true);
        holds("8/4*2=(8/4)*2.", true);
        solved("not(f(X,1)=f(2,3)),Y=X.", 0, "_0");
        CHECK.same("what fails leaves no bindings",
            Check.solutions("q(f(X,X,1)). q(_).", "q(f(Y,2,Y)).", 0), "_0 2");
    }

    private static void occursCheck() {
        holds("X=f(X).", false);
        holds("f(X)=X.", false);
        holds("X=[1,2|X].", false);
        holds("X=Y,X=f(Y).", false);
        holds("X=f(Y),Y=f(X).", false);
        holds("f(X,Y)=f(g(Y),g(X)).", false);
        holds("f(X,Y)=f(g(Y),h(Z)).", true);
        holds("X=Y,Y=X.", true);
        holds("f(X,X)=f(Y,g(Y)).", false);
        holds("X\\=f(X).", true);
        holds("X=Y+1,Y=Z*2,Z=f(a,b,[X]).", false);
        CHECK.same("in a head", Check.solutions("q(X,X).", "q(Y,f(Y)).", 0), "2");
        CHECK.same("in a head, not", Check.solutions("q(X,X).", "q(Y,f(_)),Y=f(Z),Z=1.", 0), "f(1) 2");
        String heads = "q(f(A),A). r(A,f(A)). s(Y,Z):-Y=f(A),A=Z. t(A,B,C):-C=f(A,B). u(A,B,B,A)."
            + " e. v(A,B):-e,B=f(A). w(A,B):-v(A,C),e,B=C.";
        String[] failing = {"q(Y,Y)", "q(Y,g(Y))", "q(Y,[1,Y])", "r(Y,Y)", "r(f(Y),Y)", "s(Y,Y)", "s(Y,h(Y))",
            "t(X,Y,X)", "t(1,Y,Y)", "t([Y],Z,Z)", "u(X,f(X),Y,Y)", "u(X,Y,f(X),Y)", "Z=g(Y),q(Y,Z)", "Z=g(Y),s(Y,Z)",
            "v(X,X)", "w(X,X)", "e,v(g(X),X)", "Z=g(Y),w(Z,Y)"};
        for (String goal : failing) {
            CHECK.same("not " + goal, Check.solutions(heads, goal + ".", 0), "2");
        }
        String[][] right = {{"q(Y,g(Z))", "f(g(_0)) 2"}, {"q(Y,Z)", "f(_0) 2"}, {"r(g(Y),Y)", "2"}, {"r(Y,Z)", "_0 2"},
            {"r(Y,f(g(Z)))", "g(_0) 2"}, {"s(Y,h(Z))", "f(h(_0)) 2"}, {"t(X,Y,Z)", "_0 2"}, {"t(Y,X,Z),X=g(Y)", "_0 2"},
            {"u(X,f(Y),f(g(Z)),g(Y))", "g(g(_0)) 2"}, {"Z=g(Y),s(X,Z),Y=1", "g(1) 2"},
            {"v(X,Y),X=1", "1 2"}, {"w(X,Y),X=Z", "_0 2"}};
        for (String[] one : right) {
            CHECK.same(one[0], Check.solutions(heads, one[0] + ".", 0), one[1]);
        }
    }

    private static void clausesHaveNewVariables() {
        String program = "eq(X,X). two(X,Y):-eq(X,A),eq(Y,B),A=1. rec(0,_). rec(N,X):-N>0,M is N-1,eq(X,_),rec(M,_).";
        CHECK.same("each use", Check.solutions(program, "eq(1,A),eq(2,B),X=[A,B].", 2), "[1,2] 2");
        CHECK.same("each clause", Check.solutions(program, "two(X,Y).", 1), "_0 2");
        CHECK.same("recursion", Check.solutions(program, "rec(9,X).", 0), "_0 2");
        CHECK.same("the question's own", Check.solutions("p(X,Y):-X=1.", "p(Y,X).", 1), "_0 2");
    }

    private static void apartAndSame() {
        holds("1\\=2.", true);
        holds("1\\=1.", false);
        holds("X\\=1.", false);
        holds("f(X,1)\\=f(2,Y).", false);
        holds("f(X,X)\\=f(1,2).", true);
        solved("not(f(X)\\=f(1)),Y=X.", 0, "_0");
        holds("X==X.", true);
        holds("X==Y.", false);
        holds("X=Y,X==Y.", true);
        holds("X==1.", false);
        holds("X=1,X==1.", true);
        holds("f(X,g)==f(X,g).", true);
        holds("f(X,Y)==f(Y,X).", false);
        holds("X=Y,f(X,Y)==f(Y,X).", true);
        holds("a==a(1).", false);
        holds("1+2==3.", false);
        holds("[1|X]==[1|X].", true);
        holds("[1,2]==[1|[2]].", true);
        holds("1==a.", false);
        holds("X is 1+2,X==3.", true);
        solved("not(X==1),Y=1.", 0, "_0");
    }

    private static void free() {
        holds("var(X).", true);
        holds("var(1).", false);
        holds("var(a).", false);
        holds("var(f(X)).", false);
        holds("X=1,var(X).", false);
        holds("X=Y,var(X),var(Y).", true);
        holds("X=Y,Y=f(Z),var(X).", false);
        holds("var(_).", true);
    }

    private static void values() {
        solved("X is 5.", 0, "5");
        solved("X is 1+2*3-4.", 0, "3");
        solved("X is (1+2)*3.", 0, "9");
        solved("X is 10-3-2.", 0, "5");
        solved("X is 7/2.", 0, "3");
        solved("X is -7/2.", 0, "-3");
        solved("X is 7/ -2.", 0, "-3");
        solved("X is -7/ -2.", 0, "3");
        solved("X is 7 mod 3.", 0, "1");
        solved("X is -7 mod 3.", 0, "-1");
        solved("X is 7 mod -3.", 0, "1");
        solved("X is -7 mod -3.", 0, "-1");
        solved("X is 24/4*2 mod 5.", 0, "2");
        solved("Y=2,X is Y*Y+Y.", 1, "6");
        solved("E=1+Y,Y=2,X is E*E.", 2, "9");
        solved("X is 65536*65536.", 0, "0");
        solved("X is 65536*32768.", 0, "-2147483648");
        solved("X is 65536*32768-1.", 0, "2147483647");
        solved("X is 65536*32768/ -1.", 0, "-2147483648");
        solved("X is 65536*32768 mod -1.", 0, "0");
        solved("X is 65535*65537+65536*32768+65536*32768+1.", 0, "0");
        holds("3 is 1+2.", true);
        holds("4 is 1+2.", false);
        holds("1+2 is 1+2.", false);
        holds("a is 1.", false);
        holds("f(X) is 1.", false);
        holds("X=3,X is 1+2.", true);
        holds("X=1+2,X is 3.", false);
    }

    private static void wrapAround() {
        String least = "65536*32768";
        String greatest = "(65536*32768-1)";
        solved("X is " + greatest + "+1.", 0, "-2147483648");
        solved("X is " + greatest + "+0.", 0, "2147483647");
        solved("X is " + least + "-1.", 0, "2147483647");
        solved("X is " + least + "-0.", 0, "-2147483648");
        solved("X is " + greatest + "-" + least + ".", 0, "-1");
        solved("X is 0-" + least + ".", 0, "-2147483648");
        solved("X is 0-" + greatest + "-1.", 0, "-2147483648");
        solved("X is 0-" + greatest + "-2.", 0, "2147483647");
        solved("X is " + greatest + "*2.", 0, "-2");
        solved("X is " + greatest + "*" + greatest + ".", 0, "1");
        solved("X is " + least + "* -1.", 0, "-2147483648");
        solved("X is 46340*46340.", 0, "2147395600");
        solved("X is 46341*46341.", 0, "-2147479015");
        solved("X is -46341*46341.", 0, "2147479015");
        solved("X is " + least + "/1.", 0, "-2147483648");
        solved("X is " + greatest + "/ -1.", 0, "-2147483647");
        solved("X is " + least + " mod 10.", 0, "-8");
        solved("X is " + greatest + " mod 10.", 0, "7");
        solved("X is 0/5.", 0, "0");
        solved("X is -1/2.", 0, "0");
        solved("X is -1 mod 1.", 0, "0");
    }

    private static void valuesThatAreNone() {
        wrong("X is Y.");
        wrong("X is a.");
        wrong("X is f(1).");
        wrong("X is [].");
        wrong("X is [1].");
        wrong("X is 1+a.");
        wrong("X is a+1.");
        wrong("X is 1/0.");
        wrong("X is 1 mod 0.");
        wrong("X is 1/(2-2).");
        wrong("X is 0*Y.");
        wrong("X is X.");
        wrong("1<X.");
        wrong("X<1.");
        wrong("a>1.");
        wrong("1=<f(2).");
        wrong("[]>=1.");
        wrong("1/0<2.");
        wrong("2<1/0.");
        wrong("a is X.");
        holds("fail,X<1.", false);
    }

    private static void comparisons() {
        String[] relations = {"<", ">", "=<", ">="};
        int[][] pairs = {{1, 2}, {2, 1}, {2, 2}, {-3, 2}, {0, -1}};
        for (int[] p : pairs) {
            boolean[] due = {p[0] < p[1], p[0] > p[1], p[0] <= p[1], p[0] >= p[1]};
            for (int k = 0; k < 4; k++) {
                holds(p[0] + relations[k] + " " + p[1] + ".", due[k]);
                holds("X=" + p[0] + ",Y=" + p[1] + ",X+1" + relations[k] + "1+Y.", due[k]);
            }
        }
        holds("65536*32768<0.", true);
        holds("65536*32768-1>0.", true);
        holds("65536*32768=<65536*32768-1.", true);
    }

    private static final String SUMS = "l(0,X,X). l(N,X,Y):-N>0,M is N-1,l(M,X+1,Y)."
        + " r(0,X,X). r(N,X,Y):-N>0,M is N-1,r(M,1+X,Y)."
        + " b(0,X,X). b(N,X,Y):-N>0,M is N-1,b(M,X+X,Y).";

    private static void sums(String question, int status, String due) {
        HornBench bench = Check.asked(SUMS, question);
        bench.run(500);
        CHECK.same(question + " status", bench.status(), status);
        if (status == 1) {
            CHECK.same(question, Check.written(bench, 0), due);
        }
    }

    private static void sixtyOperators() {
        sums("X is 0,l(60,0,Y),Z is Y.", 1, "0");
        for (String way : new String[] {"l", "r"}) {
            sums("X=Z," + way + "(60,0,Y),Z is Y.", 1, "60");
            sums("X=Z," + way + "(61,0,Y),Z is Y.", 3, "");
            sums("X=Z," + way + "(59,0,Y),Z is 1+Y.", 1, "60");
            sums("X=Z," + way + "(60,0,Y),Z is 1+Y.", 3, "");
            sums("X=Z," + way + "(60,0,Y),Z is Y+1.", 3, "");
            sums("X=Z," + way + "(60,0,Y),Y=Y,Y>=60,Z=1.", 1, "1");
            sums("X=Z," + way + "(61,0,Y),0<Y.", 3, "");
            sums("X=Z," + way + "(30,0,Y)," + way + "(30,Y,W),Z is W.", 1, "60");
            // Y is met twice, the second time deeper.
            sums("X=Z," + way + "(58,0,Y),Z is Y+(1+(1-Y)).", 3, "");
            sums("X=Z," + way + "(57,0,Y),Z is Y+(1+(1-Y)).", 1, "2");
        }
        // 2 to the 60th numbers are in it, which wrap around to 0.
        sums("X=Z,b(60,1,Y),Z is Y.", 1, "0");
        sums("X=Z,b(31,1,Y),Z is Y-1.", 1, "2147483647");
        sums("X=Z,b(61,1,Y),Z is Y.", 3, "");
        sums("X=Z,b(60,a,Y),Z is Y.", 3, "");
    }

    /** As sums() does, with another operator at each of N places, one within the other. */
    private static void sixtyOfEach() {
        String[] operators = {"+2", "-2", "*2", "/2", " mod 7"};
        long[] values = {121, -119, 0, 0, 1};
        for (int k = 0; k < operators.length; k++) {
            String program = "l(0,X,X). l(N,X,Y):-N>0,M is N-1,l(M,X" + operators[k] + ",Y).";
            for (int depth = 59; depth <= 61; depth++) {
                HornBench bench = Check.asked(program, "l(" + depth + ",1,Y),Z is Y.");
                bench.run(500);
                String what = depth + " times " + operators[k];
                CHECK.same(what, bench.status(), depth <= 60 ? 1 : 3);
                if (depth == 60) {
                    CHECK.same(what + ": the value", bench.number(1), values[k]);
                }
            }
        }
    }

    private static void sixtyOnEachSide() {
        String[] relations = {"<", ">", "=<", ">="};
        for (int depth = 60; depth <= 61; depth++) {
            for (String relation : relations) {
                boolean less = relation.charAt(0) == '<' || relation.equals("=<");
                String left = "Y" + relation + (less ? "100" : "0");
                String right = (less ? "0" : "100") + relation + "Y";
                sums("X=Z,l(" + depth + ",0,Y)," + left + ",Z=1.", depth == 60 ? 1 : 3, "1");
                sums("X=Z,r(" + depth + ",0,Y)," + right + ",Z=1.", depth == 60 ? 1 : 3, "1");
            }
            // The operators of both sides do not stand one within the other.
            sums("X=Z,l(60,0,Y),r(60,0,W),Y=<W,Z=1.", 1, "1");
            // What has no value, but stands on the left of is, is only unified.
            sums("X=Z,l(" + depth + ",0,Y),not(Y is 1),Z=1.", 1, "1");
        }
    }

    /** Each variable of each clause that was used has a value of its own. */
    private static void valuesOfManyClauses() {
        String program = "g(0,E,E). g(N,E,R):-N>0,M is N-1,A is N*7+3,B is N*N-5,g(M,A*B-E,R).";
        HornBench bench = Check.asked(program, "A=1000,B=20,C=3,g(50,A-B+C,R),X is R+A*B+C.");
        bench.run(500);
        int due = 1000 - 20 + 3;
        for (int n = 50; n > 0; n--) {
            due = (n * 7 + 3) * (n * n - 5) - due;
        }
        CHECK.same("values of many clauses: status", bench.status(), 1);
        CHECK.same("values of many clauses", bench.number(4), due + 1000 * 20 + 3);
        String sums = "v(A,B,A*10+B). w(A,B,C,A*100+B*10+C).";
        CHECK.same("one behind the other",
            Check.solutions(sums, "v(1,2,X),v(3,4,Y),v(5,6,Z),W is (X*100+Y)*100+Z.", 3), "123456 2");
        CHECK.same("three of each",
            Check.solutions(sums, "w(1,2,3,X),w(4,5,6,Y),w(7,8,9,Z),W is (X*1000+Y)*1000+Z.", 3), "123456789 2");
    }

    private static void numbers() {
        HornBench bench = Check.asked("p(4).", "X= -7,p(Y),Z is X*Y,A=B,C=f(1),D=a,E=1+2.");
        for (int k = 0; k < 8; k++) {
            int variable = k;
            CHECK.fails("number(" + k + ") at first", bench, IllegalStateException.class,
                () -> bench.number(variable));
        }
        bench.run(500);
        CHECK.same("X", bench.number(0), -7);
        CHECK.same("Y", bench.number(1), 4);
        CHECK.same("Z", bench.number(2), -28);
        for (int k = 3; k < 8; k++) {
            int variable = k;
            CHECK.fails("number(" + k + ")", bench, IllegalStateException.class, () -> bench.number(variable));
        }
        for (int k : new int[] {-1, 8, Integer.MAX_VALUE, Integer.MIN_VALUE}) {
            CHECK.fails("number(" + k + ")", bench, IndexOutOfBoundsException.class, () -> bench.number(k));
        }
        bench.run(500);
        CHECK.fails("taken back", bench, IllegalStateException.class, () -> bench.number(0));
        bench.drop(0);
        CHECK.fails("no question", bench, IndexOutOfBoundsException.class, () -> bench.number(0));
    }

    private static void isSame() {
        HornBench bench = Check.asked("p.", "X=Y,A=f(Z,1),B=f(Z,W),W=1,V=1.");
        CHECK.isTrue("a variable with itself", bench.isSame(0, 0));
        CHECK.isTrue("not yet", !bench.isSame(0, 1));
        bench.run(1);
        CHECK.isTrue("X and Y", bench.isSame(0, 1));
        CHECK.isTrue("Y and X", bench.isSame(1, 0));
        bench.run(2);
        CHECK.isTrue("f(Z,1) and f(Z,W)", !bench.isSame(2, 4));
        CHECK.isTrue("nothing was bound", !bench.isSame(5, 6));
        bench.run(500);
        CHECK.isTrue("f(Z,1) twice", bench.isSame(2, 4));
        CHECK.isTrue("1 and 1", bench.isSame(5, 6));
        CHECK.isTrue("Z and 1", !bench.isSame(3, 5));
        int[][] wrong = {{-1, 0}, {0, -1}, {7, 0}, {0, 7}, {Integer.MAX_VALUE, 0}, {0, Integer.MIN_VALUE}};
        for (int[] p : wrong) {
            CHECK.fails("isSame(" + p[0] + ", " + p[1] + ")", bench, IndexOutOfBoundsException.class,
                () -> bench.isSame(p[0], p[1]));
        }
        bench.run(500);
        CHECK.isTrue("taken back", !bench.isSame(0, 1));
        HornBench none = Check.bench("p.");
        CHECK.fails("isSame without a question", none, IndexOutOfBoundsException.class,
            () -> none.isSame(0, 0));
    }

    /** Terms that would be far too large if they were written out: each must be done at once. */
    private static void sharedTerms() {
        String program = "d(0,X,X). d(N,X,Y):-N>0,M is N-1,d(M,f(X,X),Y)."
            + " e(0,X,X). e(N,X,Y):-N>0,M is N-1,e(M,f(f(X,X),f(X,X)),Y). g(X):-g(f(X,X)).";
        String[] right = {"d(100,a,X),d(100,a,Y),X==Y,X=Y.", "d(80,A,X),e(40,B,Y),X=Y,A==B.",
            "d(80,A,X),e(40,A,Y),X==Y.", "d(81,a,X),e(40,a,Y),X\\=Y.", "d(90,A,X),d(90,B,Y),not(X==Y)."};
        for (String question : right) {
            HornBench bench = Check.asked(program, question);
            Check.runOn(bench);
            CHECK.same(question, bench.status(), 1);
        }
        String[] failing = {"d(81,A,X),e(40,A,Y),X=Y.", "d(100,A,X),A=X.", "d(90,a,X),d(90,b,Y),X=Y."};
        for (String question : failing) {
            HornBench bench = Check.asked(program, question);
            Check.runOn(bench);
            CHECK.same(question, bench.status(), 2);
        }
        HornBench large = Check.asked(program, "d(100,a,X),d(100,a,Y).");
        Check.runOn(large);
        CHECK.isTrue("isSame", large.isSame(0, 1));
        CHECK.fails("write", large, IllegalStateException.class, () -> large.write(0));
        HornBench endless = Check.asked(program, "g(A).");
        CHECK.same("1000 steps", endless.run(500) + endless.run(500), 1000);
        CHECK.same("would go on", endless.status(), 4);
    }

    /** Terms that are as deep as 1000 steps can make them. */
    private static void deepTerms() {
        String program = "l(X):-l([" + Check.repeat("a,", 22) + "a|X]). s(X):-s(X" + Check.repeat("+1", 24) + ")."
            + " e(X,Y):-X=Y,e(f(X,_),f(Y,_)). n(z). n(s(X)):-n(X). m(0,z). m(N,s(X)):-N>0,M is N-1,m(M,X).";
        for (String question : new String[] {"l(X).", "l([]).", "s(X).", "s(1).", "e(X,Y)."}) {
            HornBench bench = Check.asked(program, question);
            CHECK.same(question, bench.run(500) + bench.run(500), 1000);
            CHECK.same(question + " status", bench.status(), 4);
        }
        HornBench bench = Check.asked(program, "m(200,X),n(X).");
        Check.runOn(bench);
        CHECK.same("200 deep", bench.status(), 1);
        CHECK.same("steps", bench.count(6), 601 + 201);
        CHECK.same("601 bytes are too many, 601 here", bench.count(3), 0);
        CHECK.fails("write", bench, IllegalStateException.class, () -> bench.write(0));
    }

    private static void manyLongLists() {
        String list = "[" + Check.repeat("a,", 19) + "a|X]";
        HornBench bench = Check.bench("l(L):-L=" + list + ",l(L). eq(L):-L==" + list + ".");
        for (int k = 0; k < 5; k++) {
            Check.asked(bench, "l(" + list + ").");
            Check.runOn(bench);
            CHECK.same("lists that are unified", bench.status(), 4);
        }
        Check.asked(bench, "f(a,b)=f(a,c).");
        bench.run(1);
        CHECK.same("others are not unified", bench.status(), 2);
        Check.asked(bench, "X=[1,2],Y=[1,2],X==Y,[X|Y]==[Y|X],f(X,3)=f(Y,4).");
        CHECK.same("but for the last", bench.run(500), 5);
        CHECK.same("which fails", bench.status(), 2);
    }

    /** Two lists of 1400 elements are made in some 600 steps, and then met in one step. */
    private static void veryLongLists() {
        String program = "l(0,X,X). l(N,X,Y):-N>0,M is N-1,l(M,[" + Check.repeat("a,", 13) + "a|X],Y).";
        String[] right = {"l(100,[],X),l(100,[],Y),X==Y,X=Y.", "l(100,[b],X),l(100,[c],Y),X\\=Y,not(X==Y).",
            "l(100,[Z],X),l(100,[c],Y),not(X==Y),X=Y,X==Y,Z==c.", "l(100,[f(b)],X),l(100,[f(c)],Y),not(X=Y),f(b)=f(b)."};
        for (String question : right) {
            HornBench bench = Check.asked(program, question);
            Check.runOn(bench);
            CHECK.same(question, bench.status(), 1);
        }
        HornBench bench = Check.asked(program, "l(100,[b],X),l(100,[c],Y),X=Y.");
        Check.runOn(bench);
        CHECK.same("different at their ends", bench.status(), 2);
        Check.asked(bench, "f(a,g(b))=f(X,g(Y)),f(X)\\=f(Y).");
        Check.runOn(bench);
        CHECK.same("a short one behind it", bench.status(), 1);
    }

    /** 0 to 4 arguments; the same name with another number of them is another one. */
    private static void argumentsOfNames() {
        String[] names = {"f", "f(1)", "f(1,1)", "f(1,1,1)", "f(1,1,1,1)"};
        for (int k = 0; k < names.length; k++) {
            for (int j = 0; j < names.length; j++) {
                holds(names[k] + "=" + names[j] + ".", k == j);
                holds(names[k] + "\\=" + names[j] + ".", k != j);
                holds(names[k] + "==" + names[j] + ".", k == j);
                CHECK.same("head " + names[k] + ", goal " + names[j],
                    Check.solutions(names[k] + ".", names[j] + ",X=1.", 0), k == j ? "1 2" : "2");
            }
        }
        holds("[]=f.", false);
        holds("[a]=[a|[]].", true);
        holds("[a,b|c]=[a|[b|c]].", true);
        holds("[a,b|c]=[a,b,c].", false);
    }
}
