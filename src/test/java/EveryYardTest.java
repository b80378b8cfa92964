import java.util.ArrayDeque;
import java.util.ArrayList;
import java.util.Arrays;
import java.util.HashMap;
import java.util.List;
import java.util.Map;

/**
 * Compares solve, move, follow, blocked, rule and count with answers that are worked out another
 * way: all yards that can come up are laid out as a graph, and moves are counted backward from its
 * ends. With the argument "all" every arrangement of every yard is compared (half a minute), else
 * every one of the small yards and an even choice of the large ones.
 */
public final class EveryYardTest {
    private static final int CHOSEN = 60;
    private static final int UNKNOWN = -2;
    /** How the ranks 1 .. 6 are told as groups, so that gaps and both ends of 1 .. 20 come up. */
    private static final int[] GROUP = {0, 1, 2, 7, 11, 19, 20};

    private static int wrong = 0;
    private static long compared = 0;
    private static int longest = 0;

    public static void main(String[] args) {
        boolean all = args.length > 0 && args[0].equals("all");
        for (int stacks = 2; stacks <= 4; stacks++) {
            for (int tiers = 2; tiers <= 4; tiers++) {
                compareYards(stacks, tiers, all);
            }
        }
        System.out.println(compared + " yards compared, the longest of the least ways has " + longest + " moves");
        System.out.println(wrong == 0 ? "all answers are as due" : wrong + " answers are not as due");
        if (wrong != 0) {
            System.exit(1);
        }
    }

    private static void compareYards(int stacks, int tiers, boolean all) {
        for (int boxes = 0; boxes <= Math.min(6, stacks * tiers); boxes++) {
            for (int steps = 0; steps < 1 << Math.max(0, boxes - 1); steps++) {
                // Bit i of the steps says whether box i + 1 is of a greater group than box i.
                int[] ranks = new int[boxes];
                for (int i = 0; i < boxes; i++) {
                    ranks[i] = i == 0 ? 1 : ranks[i - 1] + (steps >> i - 1 & 1);
                }
                List<String> yards = new ArrayList<>();
                arrange(new String[stacks], 0, tiers, ranks, yards);
                int stride = all ? 1 : Math.max(1, yards.size() / CHOSEN);
                for (int manner = 0; manner <= 2; manner++) {
                    if (all || boxes < 6 || steps == 31 || steps % 5 == 0) {
                        compareGraph(new Graph(stacks, tiers, manner, yards), yards, stride);
                    }
                }
            }
        }
    }

    /** All arrangements of the boxes, each stack a text from the bottom up, stacks joined by '/'. */
    private static void arrange(String[] stack, int s, int tiers, int[] left, List<String> yards) {
        if (s == stack.length) {
            if (left.length == 0) {
                yards.add(String.join("/", stack) + "/");
            }
            return;
        }
        fill(stack, s, "", tiers, left, yards);
    }

    private static void fill(String[] stack, int s, String so, int tiers, int[] left, List<String> yards) {
        stack[s] = so;
        arrange(stack, s + 1, tiers, left, yards);
        if (so.length() == tiers) {
            return;
        }
        for (int i = 0; i < left.length; i++) {
            if (i > 0 && left[i] == left[i - 1]) {
                continue;
            }
            int[] rest = new int[left.length - 1];
            System.arraycopy(left, 0, rest, 0, i);
            System.arraycopy(left, i + 1, rest, i, left.length - 1 - i);
            fill(stack, s, so + left[i], tiers, rest, yards);
        }
    }

    private static String[] split(String yard) {
        String[] parts = yard.split("/", -1);
        return Arrays.copyOf(parts, parts.length - 1);
    }

    private static String joined(String[] stack) {
        return String.join("/", stack) + "/";
    }

    private static char next(String[] stack) {
        char least = '9';
        for (String s : stack) {
            for (char c : s.toCharArray()) {
                least = c < least ? c : least;
            }
        }
        return least;
    }

    private static String[] leave(String[] stack) {
        String[] rest = stack.clone();
        boolean again = true;
        while (again) {
            again = false;
            char next = next(rest);
            for (int s = 0; s < rest.length; s++) {
                if (!rest[s].isEmpty() && rest[s].charAt(rest[s].length() - 1) == next) {
                    rest[s] = rest[s].substring(0, rest[s].length() - 1);
                    again = true;
                    break;
                }
            }
        }
        return rest;
    }

    private static String[] shift(String[] stack, int from, int to) {
        String[] after = stack.clone();
        after[to] += after[from].charAt(after[from].length() - 1);
        after[from] = after[from].substring(0, after[from].length() - 1);
        return after;
    }

    private static int blocked(String[] stack) {
        int blocked = 0;
        for (String s : stack) {
            for (int i = 0; i < s.length(); i++) {
                for (int j = 0; j < i; j++) {
                    if (s.charAt(j) < s.charAt(i)) {
                        blocked++;
                        break;
                    }
                }
            }
        }
        return blocked;
    }

    private static char least(String s) {
        char least = '9';
        for (char c : s.toCharArray()) {
            least = c < least ? c : least;
        }
        return least;
    }

    private static int rule(String[] start, int tiers) {
        String[] stack = leave(start);
        int moves = 0;
        while (!String.join("", stack).isEmpty()) {
            char next = next(stack);
            int from = -1;
            for (int s = 0; s < stack.length; s++) {
                if (stack[s].indexOf(next) >= 0 && (from < 0 || above(stack[s], next) < above(stack[from], next))) {
                    from = s;
                }
            }
            char box = stack[from].charAt(stack[from].length() - 1);
            int to = -1;
            for (int s = 0; s < stack.length; s++) {
                if (s != from && stack[s].length() < tiers && least(stack[s]) >= box
                        && (to < 0 || least(stack[s]) < least(stack[to]))) {
                    to = s;
                }
            }
            for (int s = 0; s < stack.length && (to < 0 || least(stack[to]) < box); s++) {
                if (s != from && stack[s].length() < tiers && (to < 0 || least(stack[s]) > least(stack[to]))) {
                    to = s;
                }
            }
            if (to < 0) {
                return -1;
            }
            stack = leave(shift(stack, from, to));
            moves++;
        }
        return moves;
    }

    private static int above(String s, char group) {
        return s.length() - 1 - s.lastIndexOf(group);
    }

    /** All yards that come up from the given ones by moves of a manner, and how far their end is. */
    private static final class Graph {
        final int stacks;
        final int tiers;
        final int manner;
        final Map<String, Integer> number = new HashMap<>();
        final List<String> yards = new ArrayList<>();
        final List<int[]> steps = new ArrayList<>();
        final int[] far;

        Graph(int stacks, int tiers, int manner, List<String> starts) {
            this.stacks = stacks;
            this.tiers = tiers;
            this.manner = manner;
            for (String yard : starts) {
                numberOf(joined(settle(split(yard))));
            }
            for (int y = 0; y < yards.size(); y++) {
                steps.add(stepsFrom(split(yards.get(y))));
            }
            far = distances();
        }

        String[] settle(String[] stack) {
            return manner == 2 ? stack : leave(stack);
        }

        int numberOf(String yard) {
            Integer known = number.get(yard);
            if (known == null) {
                known = yards.size();
                number.put(yard, known);
                yards.add(yard);
            }
            return known;
        }

        /** Of each move in order: from, to, the yard behind it. */
        int[] stepsFrom(String[] stack) {
            int[] row = new int[3 * stacks * stacks];
            int n = 0;
            char next = next(stack);
            for (int from = 0; from < stacks; from++) {
                boolean open = !stack[from].isEmpty() && (manner != 0 || stack[from].indexOf(next) >= 0);
                for (int to = 0; open && to < stacks; to++) {
                    if (to != from && stack[to].length() < tiers) {
                        row[n++] = from;
                        row[n++] = to;
                        row[n++] = numberOf(joined(settle(shift(stack, from, to))));
                    }
                }
            }
            return Arrays.copyOf(row, n);
        }

        int[] distances() {
            int[] result = new int[yards.size()];
            List<List<Integer>> before = new ArrayList<>();
            for (int y = 0; y < yards.size(); y++) {
                before.add(new ArrayList<>());
            }
            for (int y = 0; y < yards.size(); y++) {
                for (int i = 2; i < steps.get(y).length; i += 3) {
                    before.get(steps.get(y)[i]).add(y);
                }
            }
            ArrayDeque<Integer> queue = new ArrayDeque<>();
            for (int y = 0; y < yards.size(); y++) {
                String[] stack = split(yards.get(y));
                boolean end = manner == 2 ? blocked(stack) == 0 : String.join("", stack).isEmpty();
                result[y] = end ? 0 : UNKNOWN;
                if (end) {
                    queue.add(y);
                }
            }
            while (!queue.isEmpty()) {
                int y = queue.remove();
                for (int b : before.get(y)) {
                    if (result[b] == UNKNOWN) {
                        result[b] = result[y] + 1;
                        queue.add(b);
                    }
                }
            }
            return result;
        }
    }

    private static void compareGraph(Graph graph, List<String> yards, int stride) {
        for (int i = 0; i < yards.size(); i += stride) {
            compareYard(graph, yards.get(i));
        }
    }

    private static void due(Graph graph, String yard, String what, long got, long want) {
        if (got != want) {
            wrong++;
            System.out.println("tiers " + graph.tiers + ", manner " + graph.manner + ", yard " + yard + ": " + what
                    + " answered " + got + ", due is " + want);
        }
    }

    private static void compareYard(Graph graph, String yard) {
        compared++;
        String[] stack = split(yard);
        ReshuffleSearch x = new ReshuffleSearch(graph.stacks, graph.tiers);
        int boxes = 0;
        for (int s = 0; s < stack.length; s++) {
            for (char c : stack[s].toCharArray()) {
                x.put(s, GROUP[c - '0']);
                boxes++;
            }
        }
        due(graph, yard, "blocked()", x.blocked(), blocked(stack));
        due(graph, yard, "rule()", x.rule(), rule(stack, graph.tiers));
        int y = graph.numberOf(joined(graph.settle(stack)));
        int far = graph.far[y];
        longest = Math.max(longest, far);
        if (far > 0) {
            int few = Math.min(far - 1, 30);
            due(graph, yard, "solve with one too few", x.solve(graph.manner, few), far > 30 ? -2 : -1);
            due(graph, yard, "count(3) behind -1", x.count(3), -1);
        }
        int got = x.solve(graph.manner, far < 0 ? 30 : Math.min(far, 30));
        due(graph, yard, "solve", got, far > 30 ? -2 : far);
        due(graph, yard, "count(3)", x.count(3), far < 0 || far > 30 ? -1 : far);
        if (got != far || far < 0) {
            return;
        }
        String[] end = compareWay(graph, yard, x, y);
        due(graph, yard, "follow()", x.follow(), graph.manner == 2 ? 0 : boxes);
        for (int s = 0; s < graph.stacks; s++) {
            for (int t = 0; t < graph.tiers; t++) {
                due(graph, yard, "at(" + s + ", " + t + ")", x.at(s, t),
                        t < end[s].length() ? GROUP[end[s].charAt(t) - '0'] : 0);
            }
        }
    }

    /** Goes the first of the least ways: always the first move that brings the end nearer. */
    private static String[] compareWay(Graph graph, String yard, ReshuffleSearch x, int start) {
        int travel = 0;
        int y = start;
        for (int i = 0; i < graph.far[start]; i++) {
            int[] row = graph.steps.get(y);
            int k = 0;
            while (graph.far[row[k + 2]] != graph.far[y] - 1) {
                k += 3;
            }
            String source = split(graph.yards.get(y))[row[k]];
            due(graph, yard, "move(" + i + ", 0)", x.move(i, 0), row[k]);
            due(graph, yard, "move(" + i + ", 1)", x.move(i, 1), row[k + 1]);
            due(graph, yard, "move(" + i + ", 2)", x.move(i, 2), GROUP[source.charAt(source.length() - 1) - '0']);
            travel += 2 + Math.abs(row[k] - row[k + 1]);
            y = row[k + 2];
        }
        due(graph, yard, "count(4)", x.count(4), travel);
        due(graph, yard, "count(5)", x.count(5), graph.manner);
        return split(graph.yards.get(y));
    }
}
