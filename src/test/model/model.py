"""A second HornBench, written from DOC.md alone, to compare the Java one with.

It copies terms instead of sharing them, and finds error 1 by an Earley recognizer instead of
by recursive descent, so that a mistake in the one is not a mistake in the other.
"""

KEYWORDS = {"true", "fail", "not", "var", "is", "mod"}
TWO_BYTE_SYMBOLS = ["=<", ">=", "==", "\\=", ":-"]
ONE_BYTE_SYMBOLS = "()[],.|!+-*/=<>"
SMALL = "abcdefghijklmnopqrstuvwxyz"
CAPITAL = "ABCDEFGHIJKLMNOPQRSTUVWXYZ"
DIGITS = "0123456789"
OPERATORS = {"+", "-", "*", "/", "mod"}
RELATIONS = ["=", "\\=", "==", "<", ">", "=<", ">=", "is"]


class TooMuch(Exception):
    """The model copies, so that some right runs are too much for it."""


class NoValue(Exception):
    pass


# ---- reading


def tokens_of(text):
    """Rows (kind, text, position), up to one of kind end or bad."""
    tokens = []
    at = 0
    while True:
        while at < len(text) and text[at] in " \n":
            at += 1
        start = at
        if at >= len(text):
            return tokens + [("end", "", at)]
        first = text[at]
        if first in SMALL + CAPITAL + "_":
            at += 1
            while at < len(text) and text[at] in SMALL + DIGITS:
                at += 1
            word = text[start:at]
            kind = "variable" if first not in SMALL else "keyword" if word in KEYWORDS else "name"
            most = 8
        elif first in DIGITS:
            while at < len(text) and text[at] in DIGITS:
                at += 1
            kind, most = "number", 6
        else:
            at += 2 if text[at:at + 2] in TWO_BYTE_SYMBOLS else 1
            kind, most = "symbol", 2
            if text[start:at] not in TWO_BYTE_SYMBOLS and first not in ONE_BYTE_SYMBOLS:
                most = 0
        if at - start > most:
            return tokens + [("bad", text[start:at], start)]
        tokens.append((kind, text[start:at], start))


def grammar():
    """Terminals are <name>, <variable>, <number>, or the text of a keyword or symbol in quotes."""
    rules = """
        clause: head '.' | head ':-' goals '.'
        head: <name> | <name> arguments
        question: goals '.'
        goals: goal | goal ',' goals
        arguments: '(' terms ')'
        terms: term | term ',' terms
        goal: '!' | 'true' | 'fail' | 'not' '(' goals ')' | 'var' '(' term ')'
        goal: <name> | <name> arguments | term relation term
        relation: '=' | '\\=' | '==' | '<' | '>' | '=<' | '>=' | 'is'
        term: product | term '+' product | term '-' product
        product: simple | product '*' simple | product '/' simple | product 'mod' simple
        simple: <variable> | <number> | '-' <number> | <name> | <name> arguments
        simple: '[' ']' | '[' terms ']' | '[' terms '|' term ']' | '(' term ')'
    """
    result = {}
    for line in rules.split("\n"):
        if ":" in line:
            left, right = line.strip().split(": ", 1)
            for one in right.replace("'|'", "'bar'").split(" | "):
                result.setdefault(left, []).append(one.replace("'bar'", "'|'").split())
    return result


GRAMMAR = grammar()


def terminal(token):
    kind, text, _ = token
    return "'%s'" % text if kind in ("keyword", "symbol") else "<%s>" % kind


def recognize(start, symbols):
    """How many symbols are the beginning of such a text, and whether they are a whole one."""
    states = [{}]

    def close(place):
        todo = list(states[place])
        while todo:
            left, which, done, since = todo.pop()
            right = GRAMMAR[left][which]
            found = []
            if done == len(right):
                for left2, which2, done2, since2 in list(states[since]):
                    right2 = GRAMMAR[left2][which2]
                    if done2 < len(right2) and right2[done2] == left:
                        found.append((left2, which2, done2 + 1, since2))
            elif right[done] in GRAMMAR:
                found = [(right[done], k, 0, place) for k in range(len(GRAMMAR[right[done]]))]
            for item in found:
                if item not in states[place]:
                    states[place][item] = True
                    todo.append(item)

    for k in range(len(GRAMMAR[start])):
        states[0][(start, k, 0, 0)] = True
    close(0)
    for place, symbol in enumerate(symbols):
        behind = {}
        for left, which, done, since in states[place]:
            right = GRAMMAR[left][which]
            if done < len(right) and right[done] == symbol:
                behind[(left, which, done + 1, since)] = True
        if not behind:
            return place, False
        states.append(behind)
        close(place + 1)
    whole = any(left == start and since == 0 and done == len(GRAMMAR[left][which])
                for left, which, done, since in states[-1])
    return len(symbols), whole


def first_beyond_limits(tokens):
    """The first token that is too deep, or the 61st of its clause."""
    depth = taken = 0
    for k, (kind, text, _) in enumerate(tokens):
        taken += 1
        if kind == "symbol" and text in "([":
            depth += 1
        elif kind == "symbol" and text in ")]":
            depth -= 1
        if taken > 60 or depth > 8:
            return k
        if kind == "symbol" and text == ".":
            depth = taken = 0
    return len(tokens)


def error_1(start, text):
    """The position of error 1, or None."""
    all_tokens = tokens_of(text)
    last = all_tokens.pop()
    limit = first_beyond_limits(all_tokens)
    behind = all_tokens[limit][2] if limit < len(all_tokens) else last[2]
    good = all_tokens[:limit]
    if start == "question":
        parts = [good]
    else:
        parts = [[]]
        for token in good:
            parts[-1].append(token)
            if token[1] == "." and token[0] == "symbol":
                parts.append([])
        if not parts[-1] and len(parts) > 1:
            parts.pop()
    whole = False
    for part in parts:
        length, whole = recognize(start, [terminal(token) for token in part])
        if length < len(part):
            return part[length][2]
    if limit < len(all_tokens) or last[0] == "bad" or not whole:
        return behind
    return None


class Reader:
    """Makes trees of a text that has no error 1, and notes where it has one too many."""

    def __init__(self, text):
        self.tokens = tokens_of(text)
        self.at = 0
        self.excess = []

    def next(self):
        self.at += 1
        return self.tokens[self.at - 1][1]

    def skip(self, count):
        self.at += count

    def sees(self, *texts):
        kind, text, _ = self.tokens[self.at]
        return kind in ("keyword", "symbol") and text in texts

    def sees_kind(self, kind):
        return self.tokens[self.at][0] == kind

    def too_many(self):
        self.excess.append(self.tokens[self.at][2])

    def begin(self):
        self.named = {}
        self.variables = 0
        self.goal_count = 0

    def program(self, there):
        clauses = []
        while not self.sees_kind("end"):
            if there + len(clauses) >= 40:
                self.too_many()
            self.begin()
            head = self.name()
            body = []
            if self.sees(":-"):
                self.skip(1)
                body = self.goals()
            self.skip(1)
            clauses.append({"head": head, "body": body, "variables": self.variables,
                            "goals": self.goal_count, "uses": 0})
        return clauses

    def question(self):
        self.begin()
        return {"body": self.goals(), "variables": self.variables}

    def goals(self):
        goals = [self.goal()]
        while self.sees(","):
            self.skip(1)
            goals.append(self.goal())
        return goals

    def goal(self):
        self.goal_count += 1
        if self.goal_count > 8:
            self.too_many()
        if self.sees("!", "true", "fail"):
            return (self.next(),)
        if self.sees("not"):
            self.skip(2)
            goals = self.goals()
            self.skip(1)
            return ("not", goals)
        if self.sees("var"):
            self.skip(2)
            term = self.term()
            self.skip(1)
            return ("var", term)
        left = self.term()
        if self.sees(*RELATIONS):
            relation = self.next()
            return ("relation", relation, left, self.term())
        return ("call", left)

    def term(self):
        left = self.product()
        while self.sees("+", "-"):
            name = self.next()
            left = ("name", name, [left, self.product()])
        return left

    def product(self):
        left = self.simple()
        while self.sees("*", "/", "mod"):
            name = self.next()
            left = ("name", name, [left, self.simple()])
        return left

    def name(self):
        name = self.next()
        arguments = []
        if self.sees("("):
            while not self.sees(")"):
                self.skip(1)
                if len(arguments) == 4:
                    self.too_many()
                arguments.append(self.term())
            self.skip(1)
        return ("name", name, arguments)

    def variable(self):
        place = self.at
        name = self.next()
        if name == "_" or name not in self.named:
            if self.variables >= 8:
                self.excess.append(self.tokens[place][2])
            self.variables += 1
            if name == "_":
                return ("variable", self.variables - 1)
            self.named[name] = self.variables - 1
        return ("variable", self.named[name])

    def simple(self):
        if self.sees_kind("variable"):
            return self.variable()
        if self.sees_kind("number"):
            return ("number", int(self.next()))
        if self.sees("-"):
            self.skip(1)
            return ("number", -int(self.next()))
        if self.sees_kind("name"):
            return self.name()
        if self.sees("("):
            self.skip(1)
            term = self.term()
            self.skip(1)
            return term
        self.skip(1)
        elements = []
        tail = ("name", "[]", [])
        while not self.sees("]"):
            if self.sees("|"):
                self.skip(1)
                tail = self.term()
            else:
                if self.sees(","):
                    self.skip(1)
                elements.append(self.term())
        self.skip(1)
        for element in reversed(elements):
            tail = ("name", ".", [element, tail])
        return tail


# ---- doing


class Variable:
    """Terms are Variables, whole numbers, and pairs (name, arguments)."""

    def __init__(self):
        self.bound = None


def copied(tree, variables):
    if tree[0] == "variable":
        return variables[tree[1]]
    if tree[0] == "number":
        return tree[1]
    return (tree[1], [copied(argument, variables) for argument in tree[2]])


def copied_goal(goal, variables):
    if goal[0] == "not":
        return ("not", [copied_goal(one, variables) for one in goal[1]])
    if goal[0] in ("var", "call"):
        return (goal[0], copied(goal[1], variables))
    if goal[0] == "relation":
        return ("relation", goal[1], copied(goal[2], variables), copied(goal[3], variables))
    return goal


def end(term):
    while isinstance(term, Variable) and term.bound is not None:
        term = term.bound
    return term


def wrapped(number):
    return (number + 2 ** 31) % 2 ** 32 - 2 ** 31


class Work:
    """Counts what is done, to stop what is too much for the model."""

    def __init__(self):
        self.done = 0

    def tick(self):
        self.done += 1
        if self.done > 300000:
            raise TooMuch()


class Question:
    def __init__(self, tree, clauses):
        self.clauses = clauses
        self.variables = [Variable() for _ in range(tree["variables"])]
        self.row = None
        for goal in reversed(tree["body"]):
            self.row = ("goal", copied_goal(goal, self.variables), 0, self.row)
        self.state = 0
        self.again = None
        self.steps = self.solutions = self.cuts = 0
        self.choices = []
        self.trail = []
        self.work = Work()

    # terms

    def undo(self, mark):
        while len(self.trail) > mark:
            self.trail.pop().bound = None

    def stands_in(self, variable, term):
        todo = [term]
        while todo:
            self.work.tick()
            term = end(todo.pop())
            if term is variable:
                return True
            if isinstance(term, tuple):
                todo.extend(term[1])
        return False

    def unify(self, a, b, binds=True):
        mark = len(self.trail)
        todo = [(a, b)]
        good = True
        while todo and good:
            self.work.tick()
            a, b = todo.pop()
            a, b = end(a), end(b)
            if a is b:
                continue
            if isinstance(b, Variable) and not isinstance(a, Variable):
                a, b = b, a
            if isinstance(a, Variable):
                good = binds and not self.stands_in(a, b)
                if good:
                    a.bound = b
                    self.trail.append(a)
            elif isinstance(a, int) or isinstance(b, int):
                good = isinstance(a, int) and isinstance(b, int) and a == b
            else:
                good = a[0] == b[0] and len(a[1]) == len(b[1])
                if good:
                    todo.extend(zip(a[1], b[1]))
        if not good:
            self.undo(mark)
        return good

    def value(self, term, around=0):
        self.work.tick()
        term = end(term)
        if isinstance(term, int):
            return term
        if isinstance(term, Variable) or term[0] not in OPERATORS or around == 60:
            raise NoValue()
        left = self.value(term[1][0], around + 1)
        right = self.value(term[1][1], around + 1)
        if term[0] == "+":
            return wrapped(left + right)
        if term[0] == "-":
            return wrapped(left - right)
        if term[0] == "*":
            return wrapped(left * right)
        if right == 0:
            raise NoValue()
        quotient = abs(left) // abs(right)
        if (left < 0) != (right < 0):
            quotient = -quotient
        return wrapped(quotient if term[0] == "/" else left - right * quotient)

    # goals

    def fits(self, goal, clause):
        head = clause["head"]
        return head[1] == goal[0] and len(head[2]) == len(goal[1])

    def first_clause(self, goal, start):
        for k in range(start, len(self.clauses)):
            clause = self.clauses[k]
            if self.fits(goal, clause):
                variables = [Variable() for _ in range(clause["variables"])]
                mark = len(self.trail)
                good = self.unify(goal, copied(clause["head"], variables))
                self.undo(mark)
                if good:
                    return k
        return None

    def use(self, goal, k, row):
        clause = self.clauses[k]
        below = len(self.choices)
        if any(self.fits(goal, other) for other in self.clauses[k + 1:]):
            self.choices.append((goal, k + 1, row, len(self.trail)))
        variables = [Variable() for _ in range(clause["variables"])]
        assert self.unify(goal, copied(clause["head"], variables))
        clause["uses"] += 1
        for one in reversed(clause["body"]):
            row = ("goal", copied_goal(one, variables), below, row)
        self.row = row

    def go_back(self):
        self.again = None
        while self.choices:
            goal, start, row, mark = self.choices[-1]
            self.undo(mark)
            self.row = row
            if goal is None:
                self.choices.pop()
                return self.look_at_row()
            self.again = self.first_clause(goal, start)
            if self.again is not None:
                return None
            self.choices.pop()
        self.undo(0)
        self.state = 2
        self.row = None

    def look_at_row(self):
        if self.row is None:
            self.state = 1
            self.solutions += 1
        elif self.row[0] == "mark":
            del self.choices[self.row[2]:]
            self.go_back()

    def step(self):
        self.steps += 1
        if self.again is not None:
            goal, _, row, _ = self.choices.pop()
            k, self.again = self.again, None
            self.use(goal, k, row)
            return self.look_at_row()
        _, goal, cut, self.row = self.row
        try:
            good = self.do(goal, cut)
        except NoValue:
            self.state = 3
            self.row = None
            return None
        return self.look_at_row() if good else self.go_back()

    def do(self, goal, cut):
        kind = goal[0]
        if kind == "call":
            k = self.first_clause(goal[1], 0)
            if k is None:
                return False
            self.use(goal[1], k, self.row)
            return True
        if kind == "!":
            self.cuts += 1
            del self.choices[cut:]
            return True
        if kind == "not":
            below = len(self.choices)
            self.choices.append((None, None, self.row, len(self.trail)))
            self.row = ("mark", None, below, self.row)
            for one in reversed(goal[1]):
                self.row = ("goal", one, below + 1, self.row)
            return True
        if kind == "var":
            return isinstance(end(goal[1]), Variable)
        if kind == "relation":
            return self.relate(*goal[1:])
        return kind == "true"

    def relate(self, relation, a, b):
        if relation == "=":
            return self.unify(a, b)
        if relation == "==":
            return self.unify(a, b, False)
        if relation == "\\=":
            mark = len(self.trail)
            good = self.unify(a, b)
            self.undo(mark)
            return not good
        if relation == "is":
            return self.unify(a, self.value(b))
        left, right = self.value(a), self.value(b)
        return {"<": left < right, ">": left > right, "=<": left <= right, ">=": left >= right}[relation]

    def run(self, most):
        self.work = Work()
        before = self.steps
        if self.state == 1:
            self.state = 0
            self.go_back()
        while self.state == 0 and self.steps < 1000 and self.steps - before < most:
            self.step()
        return self.steps - before

    def goals(self):
        count = 0
        row = self.row if self.state < 2 else None
        while row is not None:
            count += row[0] == "goal"
            row = row[3]
        return count

    # writing

    def text(self, term, met):
        self.work.tick()
        term = end(term)
        if isinstance(term, Variable):
            if not any(one is term for one in met):
                met.append(term)
            return "_%d" % [one is term for one in met].index(True)
        if isinstance(term, int):
            return str(term)
        name, arguments = term
        if not arguments:
            return name
        if name == ".":
            return "[" + self.list_text(term, met) + "]"
        if name in OPERATORS:
            left = self.operand(arguments[0], met)
            right = self.operand(arguments[1], met)
            return left + (" mod " if name == "mod" else name) + right
        return name + "(" + ",".join([self.text(one, met) for one in arguments]) + ")"

    def operand(self, term, met):
        text = self.text(term, met)
        term = end(term)
        if isinstance(term, tuple) and term[0] in OPERATORS:
            return "(" + text + ")"
        return text

    def list_text(self, pair, met):
        texts = []
        while isinstance(pair, tuple) and pair[0] == ".":
            texts.append(self.text(pair[1][0], met))
            pair = end(pair[1][1])
        text = ",".join(texts)
        return text if pair == ("[]", []) else text + "|" + self.text(pair, met)

    def goal_text(self, goal, met):
        if goal[0] == "call":
            return self.text(goal[1], met)
        if goal[0] == "not":
            return "not(" + ",".join([self.goal_text(one, met) for one in goal[1]]) + ")"
        if goal[0] == "var":
            return "var(" + self.text(goal[1], met) + ")"
        if goal[0] == "relation":
            left = self.text(goal[2], met)
            between = " is " if goal[1] == "is" else goal[1]
            return left + between + self.text(goal[3], met)
        return goal[0]


# ---- the calls


class Bench:
    """Its methods answer as those of HornBench; an exception is answered by its name."""

    STATE, ARGUMENT, INDEX = "IllegalState", "IllegalArgument", "IndexOutOfBounds"

    def __init__(self):
        self.tape = ""
        self.paper = ""
        self.clauses = []
        self.asked = None
        self.error_at = -1

    def feed(self, *numbers):
        if len(self.tape) + 20 > 2000:
            return self.STATE
        for number in numbers:
            self.tape += (number & 0xffffffff).to_bytes(4, "big").decode("latin-1")
        return len(self.tape)

    def trim(self, n):
        if not 0 <= n <= len(self.tape):
            return self.ARGUMENT
        self.tape = self.tape[:n]
        return n

    def read(self, start):
        text, self.tape, self.asked = self.tape, "", None
        place = error_1(start, text)
        if place is not None:
            self.error_at = place
            return 1, None
        reader = Reader(text)
        result = reader.question() if start == "question" else reader.program(len(self.clauses))
        self.error_at = min(reader.excess) if reader.excess else -1
        return (2, None) if reader.excess else (0, result)

    def consult(self):
        self.clauses = []
        return self.add()

    def add(self):
        error, clauses = self.read("clause")
        if error == 0:
            self.clauses = self.clauses + clauses
        return error

    def drop(self, clause):
        if not 0 <= clause < len(self.clauses):
            return self.INDEX
        del self.clauses[clause]
        self.asked = None
        return len(self.clauses)

    def errorAt(self):
        return self.error_at

    def count(self, what):
        if not 0 <= what <= 8:
            return self.INDEX
        if what < 4:
            heads = {(c["head"][1], len(c["head"][2])) for c in self.clauses}
            return [len(self.clauses), len(heads), len(self.tape), len(self.paper)][what]
        q = self.asked
        if q is None:
            return 0
        return [len(q.variables), q.goals(), q.steps, q.solutions, q.cuts][what - 4]

    def clause(self, clause, what):
        if not 0 <= clause < len(self.clauses) or not 0 <= what <= 3:
            return self.INDEX
        c = self.clauses[clause]
        return [len(c["head"][2]), c["goals"], c["variables"], c["uses"]][what]

    def ask(self):
        error, tree = self.read("question")
        if error == 0:
            self.asked = Question(tree, self.clauses)
        return error

    def run(self, steps):
        if not 1 <= steps <= 500:
            return self.ARGUMENT
        return self.STATE if self.asked is None else self.asked.run(steps)

    def status(self):
        q = self.asked
        if q is None:
            return -1
        return 4 if q.state == 0 and q.steps == 1000 else q.state

    def has(self, variable):
        return self.asked is not None and 0 <= variable < len(self.asked.variables)

    def put(self, text):
        if len(text) > 600:
            return self.STATE
        self.paper = text
        return len(text)

    def write(self, variable):
        if not self.has(variable):
            return self.INDEX
        self.asked.work = Work()
        return self.put(self.asked.text(self.asked.variables[variable], []))

    def writeGoal(self):
        q = self.asked
        if q is None:
            return self.STATE
        q.work = Work()
        if q.row is None or q.again is not None:
            return self.put("")
        return self.put(q.goal_text(q.row[1], []))

    def byteAt(self, k):
        return ord(self.paper[k]) if 0 <= k < len(self.paper) else self.INDEX

    def number(self, variable):
        if not self.has(variable):
            return self.INDEX
        term = end(self.asked.variables[variable])
        return term if isinstance(term, int) else self.STATE

    def isSame(self, a, b):
        if not self.has(a) or not self.has(b):
            return self.INDEX
        self.asked.work = Work()
        return int(self.asked.unify(self.asked.variables[a], self.asked.variables[b], False))

    def stepsEach(self):
        q = self.asked
        return 0.0 if q is None or q.solutions == 0 else q.steps / q.solutions

    def digest(self):
        numbers = [self.count(what) for what in range(9)] + [self.status()]
        for clause in range(len(self.clauses)):
            numbers += [self.clause(clause, what) for what in range(4)]
        d = 389
        for number in numbers + [ord(byte) for byte in self.paper]:
            d = (d * 31 + number) % 2 ** 64
        return (d + 2 ** 63) % 2 ** 64 - 2 ** 63
