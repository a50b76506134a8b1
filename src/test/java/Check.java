/** Compares answers with those that are due, and makes benches and tapes for the tests. */
final class Check {
    private final String name;
    private int checks;
    private int wrong;

    Check(String name) {
        this.name = name;
    }

    void same(String what, long got, long due) {
        tell(got == due, what + " answered " + got + ", due is " + due);
    }

    void same(String what, double got, double due) {
        tell(Double.compare(got, due) == 0, what + " answered " + got + ", due is " + due);
    }

    void same(String what, String got, String due) {
        tell(got.equals(due), what + " answered \"" + got + "\", due is \"" + due + "\"");
    }

    void isTrue(String what, boolean got) {
        tell(got, what + " is not so");
    }

    /** The call has to throw this very exception, and to change nothing of the bench. */
    void fails(String what, HornBench bench, Class<? extends Exception> due, Runnable call) {
        long before = bench.digest();
        int errorBefore = bench.errorAt();
        Class<?> got = null;
        try {
            call.run();
        } catch (RuntimeException e) {
            got = e.getClass();
        }
        tell(got == due, what + " threw " + got + ", due is " + due);
        same(what + ": digest behind it", bench.digest(), before);
        same(what + ": errorAt behind it", bench.errorAt(), errorBefore);
    }

    private void tell(boolean good, String what) {
        checks++;
        if (!good) {
            wrong++;
            System.out.println(name + ": " + what);
        }
    }

    /** Ends the test, with exit code 1 if something was wrong. */
    void end() {
        System.out.println(name + ": " + checks + " checks, " + wrong + " wrong");
        if (wrong > 0) {
            System.exit(1);
        }
    }

    // ---- benches

    /** Puts a text behind what is on the tape. */
    static void type(HornBench bench, String text) {
        int length = bench.count(2) + text.length();
        byte[] bytes = new byte[(text.length() + 19) / 20 * 20];
        for (int k = 0; k < bytes.length; k++) {
            bytes[k] = k < text.length() ? (byte) text.charAt(k) : (byte) ' ';
        }
        for (int k = 0; k < bytes.length; k += 20) {
            bench.feed(four(bytes, k), four(bytes, k + 4), four(bytes, k + 8),
                four(bytes, k + 12), four(bytes, k + 16));
        }
        bench.trim(length);
    }

    private static int four(byte[] bytes, int k) {
        return (bytes[k] & 255) << 24 | (bytes[k + 1] & 255) << 16
            | (bytes[k + 2] & 255) << 8 | bytes[k + 3] & 255;
    }

    static int consult(HornBench bench, String text) {
        type(bench, text);
        return bench.consult();
    }

    static int add(HornBench bench, String text) {
        type(bench, text);
        return bench.add();
    }

    static int ask(HornBench bench, String text) {
        type(bench, text);
        return bench.ask();
    }

    /** A bench with a program, which has to be right. */
    static HornBench bench(String program) {
        HornBench bench = new HornBench();
        if (!program.isEmpty() && consult(bench, program) != 0) {
            throw new IllegalStateException("not a program: " + program);
        }
        return bench;
    }

    /** Asks a question, which has to be right. */
    static HornBench asked(HornBench bench, String question) {
        if (ask(bench, question) != 0) {
            throw new IllegalStateException("not a question: " + question);
        }
        return bench;
    }

    static HornBench asked(String program, String question) {
        return asked(bench(program), question);
    }

    static String paper(HornBench bench) {
        StringBuilder text = new StringBuilder();
        for (int k = 0; k < bench.count(3); k++) {
            text.append((char) bench.byteAt(k));
        }
        return text.toString();
    }

    static String written(HornBench bench, int variable) {
        int length = bench.write(variable);
        String text = paper(bench);
        return length == text.length() ? text : "length " + length + " of " + text;
    }

    static String writtenGoal(HornBench bench) {
        int length = bench.writeGoal();
        String text = paper(bench);
        return length == text.length() ? text : "length " + length + " of " + text;
    }

    /** Runs a question on to its next solution, or to its end. */
    static void runOn(HornBench bench) {
        for (int k = 0; k < 3 && (k == 0 || bench.status() == 0); k++) {
            bench.run(500);
        }
    }

    /** All solutions of a question: what a variable is in each, and how it ended. */
    static String solutions(HornBench bench, int variable) {
        StringBuilder text = new StringBuilder();
        for (int k = 0; k < 100; k++) {
            bench.run(500);
            if (bench.status() == 1) {
                text.append(written(bench, variable)).append(' ');
            } else if (bench.status() != 0) {
                return text.append(bench.status()).toString();
            }
        }
        return text.append("..").toString();
    }

    static String solutions(String program, String question, int variable) {
        return solutions(asked(program, question), variable);
    }

    static String repeat(String text, int times) {
        return text.repeat(times);
    }
}
