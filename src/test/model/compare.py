"""Makes runs of calls, with the model's answers.

    python3 compare.py SEED COUNT > runs.txt

writes COUNT runs for RecordedRunsTest (see there for their form), which compares the program's
answers with the model's. The same seed always makes the same runs.
"""

import random
import sys

from model import Bench, TooMuch

sys.setrecursionlimit(100000)

PREDICATES = [("p", 1), ("q", 2), ("r", 1), ("s", 0), ("q", 1), ("p", 3)]
VARIABLES = ["X", "Y", "Z", "_", "W"]
PROGRAMS = [
    "app([],L,L). app([H|T],L,[H|R]) :- app(T,L,R). mem(X,[X|_]). mem(X,[_|T]):-mem(X,T). len([],0)."
    " len([_|T],N):-len(T,M),N is M+1. loop(X):-loop(X+1). deep(X):-deep(f(X)). cnt(0):-!."
    " cnt(N):-M is N-1,cnt(M).",
    "nat(0). nat(s(X)):-nat(X). e(1,2). e(2,3). e(3,4). e(1,4). path(X,Y):-e(X,Y)."
    " path(X,Y):-e(X,Z),path(Z,Y). bet(L,H,L):-L=<H. bet(L,H,X):-L<H,M is L+1,bet(M,H,X). rev([],A,A)."
    " rev([H|T],A,R):-rev(T,[H|A],R). fib(0,0). fib(1,1)."
    " fib(N,F):-N>1,A is N-1,B is N-2,fib(A,X),fib(B,Y),F is X+Y.",
    "sel(X,[X|T],T). sel(X,[H|T],[H|R]):-sel(X,T,R). perm([],[]). perm(L,[H|T]):-sel(H,L,R),perm(R,T)."
    " sum(0,X,X). sum(N,A,X):-N>0,M is N-1,sum(M,A+1,X). dd(0,X,X). dd(N,X,Y):-N>0,M is N-1,dd(M,f(X),Y)."
    " st(X):-perm([3,1,2],X),not(bad(X)). bad([A,B|_]):-A>B. bad([_|T]):-bad(T).",
]
QUESTIONS = [
    "app(X,Y,[1,2,3]).", "mem(X,[1,2,3]),mem(Y,[X,a]).", "len([a,b,c],N).", "loop(0).", "deep(X).",
    "cnt(5).", "cnt(600).", "app(X,[1],Y),len(Y,N),N>=3,!.", "app(X,Y,Z).", "len(L,N).", "nat(X).",
    "path(1,X).", "bet(1,5,X),Y is X mod 2,Y==1.", "bet(1,400,X),X>398.", "rev([1,2,3],[],R).",
    "fib(7,X).", "fib(12,X).", "path(X,Y),not(path(Y,X)).", "not(not(bet(1,3,X))),bet(2,3,X).",
    "perm([1,2,3],X).", "perm([1,2,3,4],X),X=[4|_].", "sum(60,0,X),Y is X.", "sum(61,0,X),Y is X.",
    "dd(190,a,X).", "dd(199,a,X).", "dd(200,Z,X).", "st(X).", "sum(60,Z,X),Z=1,Y is X+1.",
    "sum(59,Z,X),Z=1,Y is X+1.", "st(X),!,fail.", "perm(X,[1,2]).", "nat(X),X=s(s(s(_))),!.",
]
SCRAPS = ["a", "foo", "X", "_", "Yy", "0", "12", "(", ")", "[", "]", ",", ".", "|", "!", "+", "-", "*", "/",
          "=", "<", ">", "=<", ">=", "==", "\\=", ":-", "true", "fail", "not", "var", "is", "mod",
          "abcdefgh", "abcdefghi", "1234567", "not(", "var(", "f(", "p(X)", "\x80", "[a"]


def term(r, depth):
    kind = r.random()
    if depth <= 0 or kind < .35:
        numbers = ["0", "1", "2", "3", "7", "-1", "-3", "999999", "46341"]
        return r.choice([r.choice(VARIABLES), r.choice(VARIABLES), r.choice(numbers),
                         r.choice(["a", "b", "c", "[]"])])
    if kind < .5:
        return r.choice("fg") + "(" + terms(r, depth - 1) + ")"
    if kind < .7:
        return "[" + terms(r, depth - 1) + r.choice(["", "|" + term(r, depth - 1)]) + "]"
    if kind < .9:
        return term(r, depth - 1) + r.choice(["+", "-", "*", "/", " mod ", "+"]) + term(r, depth - 1)
    return "(" + term(r, depth - 1) + ")"


def terms(r, depth):
    return ",".join(term(r, depth) for _ in range(r.randint(1, 3)))


def expression(r, depth):
    if depth <= 0 or r.random() < .4:
        return r.choice([r.choice(VARIABLES), str(r.randint(-5, 20)), str(r.randint(-5, 20))])
    text = expression(r, depth - 1) + r.choice(["+", "-", "*", "/", " mod "]) + expression(r, depth - 1)
    return r.choice([text, "(" + text + ")"])


def call(r, depth):
    name, arity = r.choice(PREDICATES)
    return name + ("(" + ",".join(term(r, depth) for _ in range(arity)) + ")" if arity else "")


def goal(r, depth=2):
    kind = r.random()
    if kind < .45:
        return call(r, 1)
    if kind < .6:
        return r.choice(["!", "!", "true", "fail"])
    if kind < .68 and depth > 0:
        return "not(" + ",".join(goal(r, depth - 1) for _ in range(r.randint(1, 2))) + ")"
    if kind < .72:
        return "var(" + term(r, 1) + ")"
    if kind < .82:
        return term(r, 2) + "=" + term(r, 2)
    if kind < .86:
        return term(r, 1) + r.choice(["\\=", "=="]) + term(r, 1)
    if kind < .94:
        return r.choice(VARIABLES) + " is " + expression(r, 2)
    return expression(r, 1) + r.choice(["<", ">", "=<", ">="]) + expression(r, 1)


def clause(r):
    goals = ", ".join(goal(r) for _ in range(r.choice([0, 0, 0, 1, 1, 2, 3])))
    return call(r, r.choice([0, 2])) + (" :- " + goals if goals else "") + "."


def question(r):
    return ", ".join(goal(r) for _ in range(r.randint(1, 3))) + "."


def spoilt(r):
    """A right text, with up to two faults."""
    text = question(r) if r.random() < .4 else " ".join(clause(r) for _ in range(r.randint(1, 4)))
    for _ in range(r.randint(0, 2)):
        k = r.randrange(len(text) + 1)
        text = text[:k] + r.choice(["", r.choice(SCRAPS)]) + text[k + r.randint(0, 1):]
    return text


def at_the_limits(r):
    kind = r.randrange(4)
    if kind == 0:
        before, behind = r.choice([("(", ")"), ("[", "]"), ("f(", ")"), ("not(", ")")])
        depth = r.randint(6, 10)
        return "a:-" + ("" if before == "not(" else "X=") + before * depth + "b" + behind * depth + "."
    if kind == 1:
        return r.choice(["a:-X=", "X=", ""]) + "1" + "+1" * r.randint(24, 30) + r.choice([".", "<2.", "=X.", ""])
    if kind == 2:
        arguments = ",".join(r.choice(["X%d" % k, "_"]) for k in range(r.randint(1, 5)))
        goals = ",".join(r.choice(["b", "not(b,b)", "X%d=Y%d" % (k, k), "!"]) for k in range(r.randint(1, 9)))
        return "a(" + arguments + "):-" + goals + "."
    return "a. " * r.randint(37, 43) + r.choice(["", "a(", "b(1,2,3,4,5)."])


def any_text(r):
    kind = r.random()
    if kind < .5:
        return spoilt(r)
    if kind < .7:
        return "".join(r.choice(SCRAPS) + r.choice(["", " "]) for _ in range(r.randint(0, 12)))
    if kind < .9:
        return at_the_limits(r)
    return "".join(chr(r.randrange(256)) for _ in range(r.randint(0, 10)))


def fed(text):
    data = text.encode("latin-1")
    padded = data + b" " * (-len(data) % 20)
    calls = []
    for k in range(0, len(padded), 20):
        numbers = [int.from_bytes(padded[j:j + 4], "big", signed=True) for j in range(k, k + 20, 4)]
        calls.append("feed " + " ".join(str(number) for number in numbers))
    return calls + ["trim %d" % len(data)]


def looks(r, count):
    for _ in range(count):
        yield r.choice([
            "run %d" % r.choice([1, 1, 2, 3, 5, 10, 50, 500, 0, 501]), "run %d" % r.choice([1, 1, 4, 500]),
            "run 1", "run 500", "status", "write %d" % r.choice([0, 0, 1, 2, 3, -1, 8]), "write 0", "writeGoal",
            "writeGoal", "number %d" % r.choice([0, 1, 2, -1]), "isSame %d %d" % (r.randint(0, 3), r.randint(0, 3)),
            "count %d" % r.randint(3, 8), "count 5", "stepsEach", "digest", "digest",
            "clause %d %d" % (r.randint(-1, 8), r.randint(-1, 4)), "byteAt %d" % r.randint(-1, 8)])


def run(r):
    kind = r.random()
    calls = []
    if kind < .25:
        for _ in range(r.randint(1, 8)):
            calls += fed(any_text(r)) + [r.choice(["consult", "add", "add", "ask"]), "errorAt", "digest"]
            if r.random() < .3:
                calls.append("drop %d" % r.randint(-1, 10))
        return calls
    known = kind >= .7
    which = r.randrange(len(PROGRAMS))
    program = PROGRAMS[which] if known else " ".join(clause(r) for _ in range(r.randint(1, 14)))[:1900]
    calls += fed(program) + ["consult", "errorAt"]
    for _ in range(r.randint(1, 5)):
        if not known and r.random() < .2:
            calls += ["drop %d" % r.randint(0, 5)] + fed(clause(r)) + ["add"]
        calls += fed(r.choice(QUESTIONS) if known else question(r)) + ["ask", "errorAt"]
        calls += looks(r, r.randint(3, 20))
    return calls + ["digest"]


def main(seed, count):
    r = random.Random(seed)
    made = 0
    while made < count:
        calls = run(r)
        bench = Bench()
        lines = []
        try:
            for line in calls[:512]:
                name, *numbers = line.split()
                answer = getattr(bench, name)(*[int(number) for number in numbers])
                lines.append("%s -> %s" % (line, answer))
        except TooMuch:
            continue
        print("new")
        print("\n".join(lines))
        made += 1


if __name__ == "__main__":
    main(int(sys.argv[1]), int(sys.argv[2]))
