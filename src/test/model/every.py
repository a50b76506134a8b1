"""Makes runs that read every short text, with the model's answers.

    python3 every.py ask|add FIRST MOST > runs.txt

The texts begin with the token FIRST and have up to MOST tokens: each one that is the beginning of
a right text, and each token behind it. The form is that of compare.py.
"""

import sys

from compare import fed
from model import Bench

TOKENS = ["a", "X", "1", "(", ")", "[", "]", ",", ".", "|", "!", "+", "*", "mod", "=", "is", ":-", "true",
          "not", "var", "-", "_", "<"]
TEXTS_OF_A_BENCH = 100


class Writer:
    def __init__(self, call):
        self.call = call
        self.written = 0
        self.bench = None

    def read(self, text):
        """Writes the calls that read a text, and returns whether a longer one could be right."""
        if self.written % TEXTS_OF_A_BENCH == 0:
            self.bench = Bench()
            print("new")
        self.written += 1
        for line in fed(text) + [self.call, "errorAt"]:
            name, *numbers = line.split()
            answer = getattr(self.bench, name)(*[int(number) for number in numbers])
            print("%s -> %s" % (line, answer))
        return answer in (-1, len(text))

    def read_all(self, tokens, most):
        if self.read(" ".join(tokens)) and len(tokens) < most:
            for token in TOKENS:
                self.read_all(tokens + [token], most)


if __name__ == "__main__":
    Writer(sys.argv[1]).read_all([sys.argv[2]], int(sys.argv[3]))
