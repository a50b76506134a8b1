/** Tokens, grammar and error 1, by promises 4 (consult), 5 (add), 7 (errorAt) and 10 (ask). */
public final class SyntaxTest {
    private static final Check CHECK = new Check("SyntaxTest");

    public static void main(String[] args) {
        rightPrograms();
        rightQuestions();
        words();
        variablesAndNumbers();
        symbolsAndBytes();
        blanks();
        headsAndBodies();
        goals();
        terms();
        questions();
        errorPlaces();
        everyByte();
        twoThousandTokens();
        eachTextBeginsAnew();
        CHECK.end();
    }

    private static void program(String text, int errorAt) {
        HornBench bench = new HornBench();
        CHECK.same("consult " + text, Check.consult(bench, text), errorAt < 0 ? 0 : 1);
        CHECK.same("errorAt of " + text, bench.errorAt(), errorAt);
        HornBench other = Check.bench("z.");
        CHECK.same("add " + text, Check.add(other, text), errorAt < 0 ? 0 : 1);
        CHECK.same("errorAt of add " + text, other.errorAt(), errorAt);
    }

    private static void question(String text, int errorAt) {
        HornBench bench = Check.bench("a.");
        CHECK.same("ask " + text, Check.ask(bench, text), errorAt < 0 ? 0 : 1);
        CHECK.same("errorAt of " + text, bench.errorAt(), errorAt);
        CHECK.same("status of " + text, bench.status(), errorAt < 0 ? 0 : -1);
    }

    private static void rightPrograms() {
        program("a.", -1);
        program(" a . ", -1);
        program("a:-b.", -1);
        program("a(X,b,3,[]):-!,true,fail,not(b,c),var(X),d.", -1);
        program("a.b.c:-d.", -1);
        program("a :- X = Y, X \\= Y, X == Y, X < 1, X > 1, X =< 1, X >= 1, X is 1.", -1);
        program("a([1,2|X],[a],[[]],f(g(-3),(h))). b(1+2*3-4 mod 5).", -1);
    }

    private static void rightQuestions() {
        question("a.", -1);
        question("\na\n.\n", -1);
        question("X=1,not(not(X==2)),!,X is 3 mod -2*(4-5)/6+-7.", -1);
        question("f(X)=f(Y).", -1);
        question("f(X)+1<Y.", -1);
        question("[a|b]=[].", -1);
        question("(X)=1.", -1);
        question("(a)=(b).", -1);
        question("a=b.", -1);
        question("var(f(X)+1).", -1);
    }

    private static void words() {
        program("abcdefgh.", -1);
        program("abcdefghi.", 0);
        program("a1234567.", -1);
        program("a12345678.", 0);
        program("a:-abcdefghi.", 3);
        program("truer. failed. nots. vars. iss. mods. isa.", -1);
        program("true.", 0);
        program("a. fail.", 3);
        program("not.", 0);
        program("var.", 0);
        program("is.", 0);
        program("mod.", 0);
        program("aB.", 1);
        program("a_.", 1);
        question("X = true.", 4);
        question("X = f(is).", 6);
        question("mod(a).", 0);
        question("a mod b.", 7);
        question("Xmod2=1.", -1);
        question("X mod2=1.", 2);
        question("2mod2=1.", 1);
        question("X is2.", 2);
        question("1is 2.", -1);
    }

    private static void variablesAndNumbers() {
        question("Abcdefgh=_bcdefgh.", -1);
        question("Abcdefghi=1.", 0);
        question("X=_bcdefghi.", 2);
        question("XY=1.", 1);
        question("X_=1.", 1);
        question("_X=1.", 1);
        question("__=1.", 1);
        question("X=123456.", -1);
        question("X=1234567.", 2);
        question("X=0000000.", 2);
        question("X=-1234567.", 3);
        question("X=12a.", 4);
        question("X=1.5.", 4);
        question("X=- 1.", -1);
        question("X=--1.", 3);
        question("X=-Y.", 3);
        question("X=-(1).", 3);
        question("X=1 2.", 4);
    }

    private static void symbolsAndBytes() {
        question("X=<1.", -1);
        question("X= <1.", 3);
        question("X<=1.", 2);
        question("X>=1.", -1);
        question("X> =1.", 3);
        question("X=>1.", 2);
        question("X==1.", -1);
        question("X= =1.", 3);
        question("X===1.", 3);
        question("X=\\=1.", 2);
        question("X\\=1.", -1);
        question("X\\1.", 1);
        question("X\\ =1.", 1);
        question("X\\", 1);
        question("X=1:-a.", 3);
        program("a:b.", 1);
        program("a: -b.", 1);
        program("a:", 1);
        program("a;", 1);
        program("{a}.", 0);
        program("a\t.", 1);
        program("a\r\n.", 1);
        program("a'.", 1);
        program("a\u00e4.", 1);
        program("\u0000", 0);
        program("a.\u00ff", 2);
        question("a?", 1);
        question("X=-1,Y=1-1,X<-1,X>-1.", -1);
    }

    private static void blanks() {
        program("\n \n a \n ( \n X \n ) \n :- \n b \n . \n ", -1);
        program("a :-b.", -1);
        program("a:- b.c.", -1);
        program("a b.", 2);
        program("   ", 3);
        program("a.  b ", 6);
    }

    private static void headsAndBodies() {
        program("", 0);
        program("a", 1);
        program("X.", 0);
        program("1.", 0);
        program("[].", 0);
        program("!.", 0);
        program("(a).", 0);
        program(".", 0);
        program(":-a.", 0);
        program("a().", 2);
        program("a(X.", 3);
        program("a(X,).", 4);
        program("a(X)(Y).", 4);
        program("a,b.", 1);
        program("a=b.", 1);
        program("a:-.", 3);
        program("a:-b,.", 5);
        program("a:-b,,c.", 5);
        program("a:-b c.", 5);
        program("a:-b:-c.", 4);
        program("a:-b)", 4);
        program("a..", 2);
        program("a.b.c", 5);
        program("a(b):-c", 7);
    }

    private static void goals() {
        program("a:-X.", 4);
        program("a:-1.", 4);
        program("a:-[].", 5);
        program("a:-(b).", 6);
        program("a:-(b),c.", 6);
        program("a:-b+c.", 6);
        program("a:-f(X)*2.", 9);
        program("a:-(X=Y).", 5);
        program("a:-((b),c).", 7);
        program("a:-X=Y=Z.", 6);
        program("a:-X<Y<Z.", 6);
        program("a:-!(b).", 4);
        program("a:-true=b.", 7);
        program("a:-fail(b).", 7);
        program("a:-not b.", 7);
        program("a:-not().", 7);
        program("a:-not(b.", 8);
        program("a:-not(b),not(c,d,not(e)).", -1);
        program("a:-not(b)=c.", 9);
        program("a:-var X.", 7);
        program("a:-var().", 7);
        program("a:-var(X,Y).", 8);
        program("a:-var(X)=Y.", 9);
        program("a:-var(!).", 7);
        program("a:-X is.", 7);
        program("a:-is(X,1).", 3);
        program("a:-=(X,1).", 3);
        program("a:-b|c.", 4);
    }

    private static void terms() {
        question("X=f().", 4);
        question("X=f(1,).", 6);
        question("X=f(1", 5);
        question("X=f(1;2).", 5);
        question("X=().", 3);
        question("X=(1.", 4);
        question("X=(1,2).", 4);
        question("X=(1]", 4);
        question("X=[].", -1);
        question("X=[1,].", 5);
        question("X=[|1].", 3);
        question("X=[1|].", 5);
        question("X=[1|2,3].", 6);
        question("X=[1|2|3].", 6);
        question("X=[1).", 4);
        question("X=[1", 4);
        question("X=[1,2|[3|[]]].", -1);
        question("X=1+.", 4);
        question("X=+1.", 2);
        question("X=1+*2.", 4);
        question("X=1 mod.", 7);
        question("X=1/2/3*4-5.", -1);
        question("X=Y(1).", 3);
        question("X=1(2).", 3);
        question("X=[](1).", 4);
        question("X=f(1)(2).", 6);
        question("X=!.", 2);
        question("X=f(a=b).", 5);
        question("X=not(a).", 2);
        question("f(X)).", 4);
    }

    private static void questions() {
        question("", 0);
        question("a", 1);
        question("a. ", -1);
        question("a. b.", 3);
        question("a..", 2);
        question("a:-b.", 1);
        question("a.b", 2);
        question("X.", 1);
        question("a,.", 2);
        question("a.\\", 2);
    }

    private static void errorPlaces() {
        HornBench bench = new HornBench();
        Check.consult(bench, "a b.");
        CHECK.same("errorAt of consult", bench.errorAt(), 2);
        Check.ask(bench, "a.");
        CHECK.same("errorAt behind a right ask", bench.errorAt(), -1);
        Check.add(bench, "abc d.");
        CHECK.same("errorAt of add", bench.errorAt(), 4);
        Check.consult(bench, "a.");
        CHECK.same("errorAt behind a right consult", bench.errorAt(), -1);
        Check.ask(bench, "a(");
        CHECK.same("errorAt of ask", bench.errorAt(), 2);
        bench.drop(0);
        Check.type(bench, "a.");
        CHECK.same("errorAt behind drop, feed and trim", bench.errorAt(), 2);
        bench.add();
        CHECK.same("errorAt behind a right add", bench.errorAt(), -1);
    }

    private static void everyByte() {
        for (int b = 0; b < 256; b++) {
            String text = String.valueOf((char) b);
            boolean small = b >= 'a' && b <= 'z';
            boolean digit = b >= '0' && b <= '9';
            boolean blank = b == ' ' || b == 10;
            program(text + ".", small ? -1 : blank ? 1 : 0);
            program("a" + text + ".", small || digit || blank ? -1 : b == '.' ? 2 : b == '(' ? 2 : 1);
            boolean begins = small || b >= 'A' && b <= 'Z' || b == '_';
            boolean opens = b == '(' || b == '[' || b == '-';
            question("X=" + text + ".", begins || digit ? -1 : b == '=' || b == '<' || blank || opens ? 3 : 2);
            question("X=1" + text + "2.", digit || "+-*/".indexOf(b) >= 0 ? -1
                : b == '<' || b == '>' || b == '=' ? 3 : blank ? 4 : b == '.' ? 4 : b == ',' ? 5 : 3);
        }
    }

    private static void twoThousandTokens() {
        HornBench bench = new HornBench();
        CHECK.same("1000 clauses are 960 too many", Check.consult(bench, Check.repeat("a.", 1000)), 2);
        CHECK.same("the 41st", bench.errorAt(), 80);
        CHECK.same("2000 bytes and no end", Check.consult(bench, Check.repeat("a.", 999) + "aa"), 1);
        CHECK.same("the end", bench.errorAt(), 2000);
        CHECK.same("blanks", Check.consult(bench, " a" + Check.repeat(" ", 1997) + "."), 0);
    }

    private static void eachTextBeginsAnew() {
        HornBench bench = new HornBench();
        Check.consult(bench, "a([[[[[[[b");
        String deep = "a([[[[[[[b]]]]]]]).";
        CHECK.same("depth", Check.consult(bench, deep), 0);
        CHECK.same("depth of each clause", Check.add(bench, deep + deep), 0);
        Check.consult(bench, "a([A,B,C,D,E,F,G,H]):-b,b,b,b,b,b,b");
        CHECK.same("variables and goals", Check.consult(bench, "a([S,T,U,V,W,X,Y,Z]):-b,b,b,b,b,b,b,b."), 0);
        Check.ask(bench, "a([S,T,U,V,W,X,Y,Z]),b,b,b,b,b,b,b");
        CHECK.same("a question", Check.ask(bench, "b([A,B,C,D,E,F,G,H]),b,b,b,b,b,b,b."), 0);
    }
}
