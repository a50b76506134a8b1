/** Promises 13 (write), 14 (writeGoal) and 15 (byteAt), and count(3). */
public final class PaperTest {
    private static final Check CHECK = new Check("PaperTest");

    public static void main(String[] args) {
        terms();
        operators();
        lists();
        variables();
        goals();
        noGoal();
        whatIsAllowed();
        sixHundredBytes();
        thePlaceOfWhatWasThere();
        bytes();
        behindTooLong();
        everyLengthOfNumbers();
        manyVariables();
        lengthsOfLists();
        lengthsOfSums();
        lengthsOfGoals();
        variablesFromFirstToLast();
        CHECK.end();
    }

    private static void written(String term, String due) {
        HornBench bench = Check.asked("", "Xx=" + term + ".");
        bench.run(1);
        CHECK.same("write of " + term, Check.written(bench, 0), due);
    }

    private static void goal(String goal, String due) {
        HornBench bench = Check.asked("", goal + ".");
        CHECK.same("writeGoal of " + goal, Check.writtenGoal(bench), due);
        HornBench inClause = Check.asked("p:-" + goal + ".", "p.");
        inClause.run(1);
        CHECK.same("writeGoal of " + goal + " in a clause", Check.writtenGoal(inClause), due);
        HornBench inNot = Check.asked("", "not(true," + goal + ",fail).");
        CHECK.same("writeGoal of a not with " + goal, Check.writtenGoal(inNot), "not(true," + due + ",fail)");
    }

    private static void terms() {
        written("a", "a");
        written("abcdefgh", "abcdefgh");
        written("f(a)", "f(a)");
        written("f(a,g(1,b2),c,f)", "f(a,g(1,b2),c,f)");
        written("0", "0");
        written("-0", "0");
        written("007", "7");
        written("-7", "-7");
        written("10", "10");
        written("999999", "999999");
        written("-999999", "-999999");
        written("((a))", "a");
        HornBench bench = Check.asked("", "X is 65536*32768,Y is X-1,Z is X/10.");
        bench.run(3);
        CHECK.same("the least number", Check.written(bench, 0), "-2147483648");
        CHECK.same("the greatest number", Check.written(bench, 1), "2147483647");
        CHECK.same("a number between", Check.written(bench, 2), "-214748364");
    }

    private static void operators() {
        written("1+2", "1+2");
        written("1 - 2", "1-2");
        written("1*2", "1*2");
        written("1/2", "1/2");
        written("1 mod 2", "1 mod 2");
        written("1+2+3", "(1+2)+3");
        written("1+(2+3)", "1+(2+3)");
        written("1+2*3", "1+(2*3)");
        written("(1+2)*3", "(1+2)*3");
        written("1--2", "1--2");
        written("-1- -2", "-1--2");
        written("1 mod 2 mod 3", "(1 mod 2) mod 3");
        written("1 mod -2", "1 mod -2");
        written("a*f(1+2)", "a*f(1+2)");
        written("f(1+2,3 mod 4)", "f(1+2,3 mod 4)");
        written("[1+2]*[]", "[1+2]*[]");
        written("1+2-3*4/5 mod 6", "(1+2)-(((3*4)/5) mod 6)");
        HornBench bench = Check.asked("", "X=1+Y,Y=2*Z,Z=3-4.");
        bench.run(3);
        CHECK.same("operators that were bound", Check.written(bench, 0), "1+(2*(3-4))");
    }

    private static void lists() {
        written("[]", "[]");
        written("[a]", "[a]");
        written("[a,b,c]", "[a,b,c]");
        written("[a|b]", "[a|b]");
        written("[a,b|c]", "[a,b|c]");
        written("[a|[b|[c|[]]]]", "[a,b,c]");
        written("[a|[b|3]]", "[a,b|3]");
        written("[[],[[]],[a,[b|c]]]", "[[],[[]],[a,[b|c]]]");
        written("[a|1+2]", "[a|1+2]");
        written("[a|f(b)]", "[a|f(b)]");
        written("[f([a])|X]", "[f([a])|_0]");
        HornBench bench = Check.asked("", "X=[1|Y],Y=[2|Z],Z=[].");
        bench.run(2);
        CHECK.same("an open list", Check.written(bench, 0), "[1,2|_0]");
        bench.run(1);
        CHECK.same("a closed list", Check.written(bench, 0), "[1,2]");
    }

    private static void variables() {
        written("Y", "_0");
        written("f(Y,Z,Y)", "f(_0,_1,_0)");
        written("f(_,_)", "f(_0,_1)");
        written("[A,B,C,D,E,F|A]", "[_0,_1,_2,_3,_4,_5|_0]");
        HornBench bench = Check.asked("", "X=f(B,A),A=B.");
        bench.run(1);
        CHECK.same("in the order they are met", Check.written(bench, 0), "f(_0,_1)");
        CHECK.same("each by itself", Check.written(bench, 2), "_0");
        bench.run(1);
        CHECK.same("two that were made one", Check.written(bench, 0), "f(_0,_0)");
        bench = Check.asked("m([]). m([_,_|T]):-m(T).", "X=[_,_|Y],m(Y).");
        for (int k = 0; k < 3; k++) {
            bench.run(9);
        }
        CHECK.same("new ones", Check.written(bench, 0), "[_0,_1,_2,_3,_4,_5]");
    }

    private static void goals() {
        goal("p", "p");
        goal("p(X,f(Y),X)", "p(_0,f(_1),_0)");
        goal("!", "!");
        goal("true", "true");
        goal("fail", "fail");
        goal("X=Y", "_0=_1");
        goal("X \\= 1+2*3", "_0\\=1+(2*3)");
        goal("X == [a|X]", "_0==[a|_0]");
        goal("1 < 2", "1<2");
        goal("1+2 > -3", "1+2>-3");
        goal("X =< Y", "_0=<_1");
        goal("X>=Y", "_0>=_1");
        goal("X is 1 mod Y", "_0 is 1 mod _1");
        goal("var(f(X))", "var(f(_0))");
        goal("var(1+2)", "var(1+2)");
        goal("not(p)", "not(p)");
        goal("not(p,not(X<1,!))", "not(p,not(_0<1,!))");
        goal("not(Y is X,X=Y)", "not(_0 is _1,_1=_0)");
        HornBench bench = Check.asked("p(X):-q(X,Y,Y).", "X=f(Z),p(X).");
        bench.run(2);
        CHECK.same("with what is bound", Check.writtenGoal(bench), "q(f(_0),_1,_1)");
    }

    private static void noGoal() {
        HornBench bench = Check.asked("p(1). p(2).", "p(X),X>1,p(Y),Z is Y/0.");
        bench.run(2);
        bench.write(0);
        CHECK.same("something is to be gone back to", Check.writtenGoal(bench), "");
        CHECK.same("nothing is on the paper", bench.count(3), 0);
        bench.run(3);
        CHECK.same("a goal", Check.writtenGoal(bench), "_0 is 1/0");
        bench.run(1);
        CHECK.same("an error", bench.status(), 3);
        CHECK.same("no goal behind an error", Check.writtenGoal(bench), "");
        bench = Check.asked("p(1). p(2).", "p(X).");
        bench.run(1);
        bench.write(0);
        CHECK.same("at a solution", Check.writtenGoal(bench), "");
        bench.run(1);
        bench.run(1);
        bench.write(0);
        CHECK.same("no more solutions", Check.writtenGoal(bench), "");
    }

    private static void whatIsAllowed() {
        HornBench bench = Check.asked("p(1).", "p(X),Y=X.");
        for (int k : new int[] {-1, 2, Integer.MAX_VALUE, Integer.MIN_VALUE}) {
            CHECK.fails("write(" + k + ")", bench, IndexOutOfBoundsException.class, () -> bench.write(k));
        }
        bench.write(0);
        bench.drop(0);
        CHECK.fails("write without a question", bench, IndexOutOfBoundsException.class, () -> bench.write(0));
        CHECK.fails("writeGoal without a question", bench, IllegalStateException.class, () -> bench.writeGoal());
        CHECK.same("the paper stays", Check.paper(bench), "_0");
    }

    private static final String LONG = "w(0,X,X). w(N,X,Y):-N>0,M is N-1,w(M,f(a,X),Y). q(_,_).";

    /** f(a,..) adds 5 bytes each time. */
    private static void sixHundredBytes() {
        HornBench bench = Check.asked(LONG, "w(119,abcde,X),w(119,abcdef,Y),Z=[abc|X].");
        Check.runOn(bench);
        CHECK.same("just 600", bench.write(0), 600);
        CHECK.same("600 are on the paper", bench.count(3), 600);
        CHECK.same("the last byte", bench.byteAt(599), ')');
        CHECK.same("the text", Check.paper(bench),
            Check.repeat("f(a,", 119) + "abcde" + Check.repeat(")", 119));
        HornBench long1 = bench;
        CHECK.fails("601", bench, IllegalStateException.class, () -> long1.write(1));
        CHECK.same("the paper stays", bench.count(3), 600);
        CHECK.fails("605", bench, IllegalStateException.class, () -> long1.write(2));

        HornBench sum = Check.asked(LONG, "w(118,ab,X),Y=12345+X,Z=X-12345,W=123456+X,q(X,4).");
        Check.runOn(sum);
        CHECK.same("with an operator", sum.write(1), 598);
        CHECK.same("with an operator behind", sum.write(2), 598);
        CHECK.same("599", sum.write(3), 599);

        // 118 times 3 steps and the last one: then q is the first goal.
        HornBench goal = Check.asked(LONG, "w(118,abcde,X),q(X,1).");
        goal.run(355);
        CHECK.same("a goal of 600", goal.writeGoal(), 600);
        HornBench over = Check.asked(LONG, "w(118,abcdef,X),q(X,1).");
        over.run(355);
        over.write(0);
        CHECK.fails("a goal of 601", over, IllegalStateException.class, () -> over.writeGoal());
        CHECK.same("the paper of before", over.count(3), 596);
    }

    private static void thePlaceOfWhatWasThere() {
        HornBench bench = Check.asked("p(X):-X=1.", "Y=f(a,b),p(Z).");
        bench.run(1);
        CHECK.same("long", Check.written(bench, 0), "f(a,b)");
        CHECK.same("short", Check.written(bench, 1), "_0");
        CHECK.same("goal", Check.writtenGoal(bench), "p(_0)");
        Check.ask(bench, "true.");
        CHECK.same("ask leaves the paper", Check.paper(bench), "p(_0)");
        Check.consult(bench, "p");
        CHECK.same("consult leaves the paper", Check.paper(bench), "p(_0)");
    }

    private static void bytes() {
        HornBench bench = Check.asked("", "X=f(b,-1).");
        CHECK.fails("an empty paper", bench, IndexOutOfBoundsException.class, () -> bench.byteAt(0));
        bench.run(1);
        bench.write(0);
        int[] due = {'f', '(', 'b', ',', '-', '1', ')'};
        for (int k = 0; k < due.length; k++) {
            CHECK.same("byteAt(" + k + ")", bench.byteAt(k), due[k]);
        }
        for (int k : new int[] {-1, 7, Integer.MAX_VALUE, Integer.MIN_VALUE}) {
            CHECK.fails("byteAt(" + k + ")", bench, IndexOutOfBoundsException.class, () -> bench.byteAt(k));
        }
        bench.run(1);
        bench.write(0);
        CHECK.fails("behind a shorter text", bench, IndexOutOfBoundsException.class, () -> bench.byteAt(2));
    }

    private static void behindTooLong() {
        HornBench bench = Check.asked(LONG, "w(119,abcde,X),w(120,a,Y),Z=[X|X],q(f(X,X),2),p.");
        Check.runOn(bench);
        CHECK.same("solved up to p", bench.status(), 2);
        bench = Check.asked(LONG, "w(119,abcde,X),w(120,a,Y),Z=[X|X],q(f(X,X),2).");
        bench.run(500);
        bench.run(119 * 3 + 120 * 3 + 3 - 500);
        HornBench here = bench;
        CHECK.same("q is next", bench.count(5), 1);
        CHECK.fails("write of Z", bench, IllegalStateException.class, () -> here.write(2));
        CHECK.same("600 behind it", bench.write(0), 600);
        CHECK.fails("writeGoal", bench, IllegalStateException.class, () -> here.writeGoal());
        CHECK.fails("write of Y", bench, IllegalStateException.class, () -> here.write(1));
        CHECK.same("600 behind these", bench.write(0), 600);
        Check.asked(bench, "p,X=a.");
        CHECK.same("a short one", Check.written(bench, 0), "_0");
        CHECK.same("a goal", Check.writtenGoal(bench), "p");
        bench = Check.asked("p.", "p.");
        bench.run(1);
        CHECK.same("nothing at a solution", Check.writtenGoal(bench), "");
    }

    private static void numberWritten(int number) {
        HornBench bench = Check.asked("", "X is " + (number >> 16) + "*65536+" + (number & 65535) + ".");
        bench.run(1);
        CHECK.same("write of a number", Check.written(bench, 0), String.valueOf(number));
        CHECK.same("number", bench.number(0), number);
    }

    private static void everyLengthOfNumbers() {
        int power = 1;
        for (int digits = 1; digits <= 10; digits++) {
            for (int near = power - 1; near <= power + 1; near++) {
                numberWritten(near);
                numberWritten(-near);
            }
            power *= 10;
        }
        numberWritten(Integer.MAX_VALUE);
        numberWritten(-Integer.MAX_VALUE);
        numberWritten(Integer.MIN_VALUE);
    }

    private static void manyVariables() {
        HornBench bench = Check.asked("v(0,[]). v(N,[_|T]):-N>0,M is N-1,v(M,T).", "v(120,X),Y=[X|Z].");
        bench.run(500);
        StringBuilder due = new StringBuilder("[_0");
        for (int k = 1; k < 120; k++) {
            due.append(",_").append(k);
        }
        CHECK.same("120 variables", Check.written(bench, 0), due + "]");
        CHECK.same("and one behind them", Check.written(bench, 1), "[" + due + "]|_120]");
    }

    /** Writes a variable whose text is due, or is refused if it has more than 600 bytes. */
    private static void text(HornBench bench, int variable, String due) {
        int length = due.length();
        String before = Check.paper(bench);
        if (length > 600) {
            CHECK.fails("write of " + length, bench, IllegalStateException.class, () -> bench.write(variable));
            CHECK.same("the paper behind " + length, Check.paper(bench), before);
        } else {
            CHECK.same("write of " + length, Check.written(bench, variable), due);
            CHECK.same("count(3)", bench.count(3), length);
            CHECK.fails("behind the last byte", bench, IndexOutOfBoundsException.class, () -> bench.byteAt(length));
        }
    }

    /** A list ends with a byte of its own, a sum with the last of its terms. */
    private static void lengthsOfLists() {
        String program = "y(0,X,X). y(N,X,Y):-N>0,M is N-1,y(M,[a,a,a,a,a|X],Y).";
        String before = "[" + Check.repeat("a,", 5 * 59);
        String open = "[" + Check.repeat("a,", 5 * 59 - 1) + "a|";
        String[] ends = {"bbbbbb", "bbbbbbb", "bbbbbbbb", "bbbbbbb,b", "b(bbbb,bbb)"};
        for (String end : ends) {
            HornBench bench = Check.asked(program, "y(59,[" + end + "],X).");
            bench.run(500);
            text(bench, 0, before + end + "]");
        }
        ends[3] = "b(bbbbbb)";
        for (String end : ends) {
            HornBench bench = Check.asked(program, "y(59," + end + ",X).");
            bench.run(500);
            text(bench, 0, open + end + "]");
        }
    }

    private static final String SUMS = "l(0,X,X). l(N,X,Y):-N>0,M is N-1,l(M,X+a,Y)."
        + " r(0,X,X). r(N,X,Y):-N>0,M is N-1,r(M,b*X,Y)."
        + " m(0,X,X). m(N,X,Y):-N>0,M is N-1,m(M,X mod c,Y).";

    /** A term with operators around it: the outermost one alone is not in ( and ). */
    private static String nested(int times, String before, String term, String behind) {
        return Check.repeat(before.isEmpty() ? "(" : before + "(", times - 1) + before + term + behind
            + Check.repeat(behind.isEmpty() ? ")" : ")" + behind, times - 1);
    }

    private static void lengthsOfSums() {
        for (int letters = 1; letters <= 8; letters++) {
            String start = Check.repeat("d", letters);
            HornBench bench = Check.asked(SUMS, "l(149," + start + ",X),Y=f(X),V=X+Z,W=Z+X.");
            bench.run(500);
            String sum = nested(149, "", start, "+a");
            text(bench, 0, sum);
            text(bench, 1, "f(" + sum + ")");
            text(bench, 2, "(" + sum + ")+_0");
            text(bench, 4, "_0+(" + sum + ")");
            bench = Check.asked(SUMS, "r(149," + start + ",X).");
            bench.run(500);
            text(bench, 0, nested(149, "b*", start, ""));
            bench = Check.asked(SUMS, "m(75," + start + ",X).");
            bench.run(500);
            text(bench, 0, nested(75, "", start, " mod c"));
        }
    }

    private static void lengthsOfGoals() {
        String[] goals = {"f(X,aaa,bb)", "X=bbbbbbb", "bbbbbbb=X", "X\\=bbbbbb", "bbbbbb\\=X", "X==bbbbbb",
            "X<bbbbbb", "bbbbbb>X", "X>=bbbbbb", "bbbbbb=<X", "X is bbbb", "bbbbb is X", "var(f(X))",
            "not(X=b,!)", "not(!,b=X)", "not(not(X=1))"};
        for (String goal : goals) {
            for (int letters = 1; letters <= 8; letters++) {
                String start = Check.repeat("d", letters);
                HornBench bench = Check.asked(SUMS, "V=W,l(147," + start + ",X)," + goal + ".");
                bench.run(1 + 147 * 3 + 1);
                bench.write(0);
                String due = goal.replace("X", nested(147, "", start, "+a"));
                if (due.length() > 600) {
                    CHECK.fails("writeGoal of " + goal, bench, IllegalStateException.class, bench::writeGoal);
                    CHECK.same("the paper behind it", Check.paper(bench), "_0");
                } else {
                    CHECK.same("writeGoal of " + goal, Check.writtenGoal(bench), due);
                }
            }
        }
    }

    private static void variablesFromFirstToLast() {
        HornBench none = Check.asked("p.", "p.");
        for (int k : new int[] {-1, 0, 1, 7, 8}) {
            noSuchVariable("no variables", none, k);
        }
        HornBench one = Check.asked("", "X=a.");
        one.run(1);
        CHECK.same("the only one", Check.written(one, 0), "a");
        noSuchVariable("one variable", one, 1);
        noSuchVariable("one variable", one, -1);
        HornBench eight = Check.asked("", "f(A,_,C,_)=f(1,2,3,4),f(_,F,_,H)=f(5,6,7,8).");
        eight.run(500);
        for (int k = 0; k < 8; k++) {
            CHECK.same("one of eight", Check.written(eight, k), String.valueOf(k + 1));
            CHECK.same("number of one of eight", eight.number(k), k + 1);
            CHECK.isTrue("isSame of one of eight", eight.isSame(k, k) && !eight.isSame(k, 7 - k));
        }
        noSuchVariable("eight variables", eight, 8);
        noSuchVariable("eight variables", eight, -1);
        Check.ask(eight, "X=");
        noSuchVariable("no question behind an error", eight, 0);
    }

    private static void noSuchVariable(String what, HornBench bench, int k) {
        Class<IndexOutOfBoundsException> due = IndexOutOfBoundsException.class;
        CHECK.fails(what + ": write(" + k + ")", bench, due, () -> bench.write(k));
        CHECK.fails(what + ": number(" + k + ")", bench, due, () -> bench.number(k));
        CHECK.fails(what + ": isSame(" + k + ", 0)", bench, due, () -> bench.isSame(k, 0));
        CHECK.fails(what + ": isSame(0, " + k + ")", bench, due, () -> bench.isSame(0, k));
    }
}
