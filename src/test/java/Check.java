import java.util.NoSuchElementException;

/** What the tests of the project share: answers that are due, yards as texts, calls that are refused. */
abstract class Check {
    /** Numbers that no stack, tier, group, move or manner has; some of them wrap round when multiplied. */
    static final int[] WILD = {Integer.MIN_VALUE, Integer.MIN_VALUE + 1, -(1 << 30), -100, -2, -1, 31, 32, 64, 100,
        256, 1 << 16, 1 << 28, 1 << 30, (1 << 30) + 1, Integer.MAX_VALUE - 1, Integer.MAX_VALUE};

    static final Class<?> ARRAY_INDEX = ArrayIndexOutOfBoundsException.class;
    static final Class<?> INDEX = IndexOutOfBoundsException.class;
    static final Class<?> ARGUMENT = IllegalArgumentException.class;
    static final Class<?> STATE = IllegalStateException.class;
    static final Class<?> NO_ELEMENT = NoSuchElementException.class;

    private static int wrong = 0;
    private static String sentence = "";

    interface Call {
        int on(ReshuffleSearch x);
    }

    /** The document's words that the answers behind this call have to hold to. */
    static void says(String words) {
        sentence = words;
    }

    static void due(String what, Object got, Object want) {
        if (!got.equals(want)) {
            wrong++;
            System.out.println((sentence.isEmpty() ? "" : "'" + sentence + "': ") + what + " answered " + got
                    + ", due is " + want);
        }
    }

    /** Runs all tests, even behind one that dies of a call that should have answered. */
    static void each(Runnable... tests) {
        for (Runnable test : tests) {
            try {
                test.run();
            } catch (RuntimeException e) {
                wrong++;
                System.out.println("'" + sentence + "': a call threw " + e + ", an answer is due");
            }
        }
    }

    static void end() {
        System.out.println(wrong == 0 ? "all answers are as due" : wrong + " answers are not as due");
        if (wrong != 0) {
            System.exit(1);
        }
    }

    /** What a call answers, or the very class that it throws; a text of the machine's begins with "Index". */
    static String answer(ReshuffleSearch x, Call call) {
        try {
            return String.valueOf(call.on(x));
        } catch (RuntimeException e) {
            boolean byMachine = e.getMessage() == null || e.getMessage().startsWith("Index");
            return e.getClass().getName() + (byMachine ? " by the machine" : "");
        }
    }

    /** The call throws this very class and changes nothing. */
    static void refused(String what, Class<?> want, ReshuffleSearch x, Call call) {
        String before = everything(x);
        due(what, answer(x, call), want.getName());
        due("all behind " + what, everything(x), before);
    }

    /** Each text is a stack from the bottom up, 'a' for group 1 to 't' for group 20. */
    static ReshuffleSearch yard(int tiers, String... stack) {
        ReshuffleSearch x = new ReshuffleSearch(stack.length, tiers);
        for (int s = 0; s < stack.length; s++) {
            for (char c : stack[s].toCharArray()) {
                x.put(s, c - 'a' + 1);
            }
        }
        return x;
    }

    static ReshuffleSearch solved(int manner, ReshuffleSearch x) {
        x.solve(manner, 30);
        return x;
    }

    static char letter(int group) {
        return group == 0 ? '.' : (char) ('a' + group - 1);
    }

    static String shown(ReshuffleSearch x) {
        StringBuilder text = new StringBuilder();
        int stacks = x.count(1);
        int tiers = x.count(2);
        for (int s = 0; s < stacks; s++) {
            for (int t = 0; t < tiers; t++) {
                text.append(letter(x.at(s, t)));
            }
            text.append('/');
        }
        return text.toString();
    }

    /** The way that is kept: from, to and box of each move; "none" if none is kept. */
    static String way(ReshuffleSearch x) {
        int moves = x.count(3);
        StringBuilder text = new StringBuilder();
        for (int i = 0; i < moves; i++) {
            text.append(x.move(i, 0)).append(x.move(i, 1)).append(letter(x.move(i, 2))).append(' ');
        }
        return moves == -1 ? "none" : text.toString().trim();
    }

    static String everything(ReshuffleSearch x) {
        return shown(x) + " " + x.count(0) + " boxes, way " + way(x) + " " + x.count(4) + " " + x.count(5);
    }
}
