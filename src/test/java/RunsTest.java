import java.util.ArrayList;
import java.util.HashSet;
import java.util.List;
import java.util.Set;

/**
 * Long runs of calls, with right and wrong arguments in any order, each answer compared with that
 * of a plain model of the document. An object gets just 512 calls.
 */
public final class RunsTest extends Check {
    private static final int RUNS = 360;
    private static final int CALLS = 512;

    private static long seed = 20261116L;

    public static void main(String[] args) {
        for (int run = 0; run < RUNS; run++) {
            int stacks = run % 9 == 0 ? below(9) - 2 : 2 + run % 3;
            int tiers = run % 10 == 0 ? below(9) - 2 : 2 + run / 3 % 3;
            compareRun(run, stacks, tiers);
        }
        end();
    }

    /** The next number of a fixed row, 0 .. bound - 1. */
    private static int below(int bound) {
        seed = seed * 6364136223846793005L + 1442695040888963407L;
        return (int) ((seed >>> 33) % bound);
    }

    private static void compareRun(int run, int stacks, int tiers) {
        ReshuffleSearch x = new ReshuffleSearch(stacks, tiers);
        Model model = new Model(stacks, tiers);
        boolean few = run % 2 == 0;
        for (int call = 0; call < CALLS; call++) {
            int which = new int[] {0, 0, 0, 0, 0, 0, 1, 1, 2, 2, 3, 3, 4, 4, 5, 6, 7, 8, 9, 9}[below(20)];
            int a = below(12) == 0 ? wild() : first(which, model);
            int b = below(12) == 0 ? wild() : second(which, model, few);
            String what = "run " + run + ", call " + call + ": " + which + " with " + a + ", " + b;
            due(what, answer(x, y -> call(y, which, a, b)), model.answer(which, a, b));
        }
    }

    private static int wild() {
        return below(2) == 0 ? WILD[below(WILD.length)] : below(8) - 1;
    }

    private static int first(int which, Model model) {
        switch (which) {
            case 2: return below(3);
            case 3: return below(5);
            case 9: return below(6);
            default: return below(model.stacks.size());
        }
    }

    private static int second(int which, Model model, boolean few) {
        switch (which) {
            case 0: return 1 + below(few ? 4 : 20);
            case 2: return below(3) == 0 ? below(6) : 30 - below(2);
            case 3: return below(3);
            case 7: return below(model.stacks.size());
            default: return below(model.tiers);
        }
    }

    private static int call(ReshuffleSearch x, int which, int a, int b) {
        switch (which) {
            case 0: return x.put(a, b);
            case 1: return x.off(a);
            case 2: return x.solve(a, b);
            case 3: return x.move(a, b);
            case 4: return x.follow();
            case 5: return x.blocked();
            case 6: return x.rule();
            case 7: return x.travel(a, b);
            case 8: return x.at(a, b);
            default: return x.count(a);
        }
    }

    /** The document in its plainest form; a way is searched breadth first, moves in their order. */
    private static final class Model {
        final List<List<Integer>> stacks = new ArrayList<>();
        final int tiers;
        List<int[]> way = null;
        int manner;
        List<List<Integer>> start;

        Model(int stacks, int tiers) {
            for (int s = 0; s < (stacks < 2 || stacks > 4 ? 3 : stacks); s++) {
                this.stacks.add(new ArrayList<>());
            }
            this.tiers = tiers < 2 || tiers > 4 ? 3 : tiers;
        }

        String answer(int which, int a, int b) {
            switch (which) {
                case 0: return put(a, b);
                case 1: return off(a);
                case 2: return solve(a, b);
                case 3: return move(a, b);
                case 4: return follow();
                case 5: return "" + blocked(stacks);
                case 6: return "" + rule();
                case 7: return isStack(a) && isStack(b) ? "" + (2 + Math.abs(a - b)) : ARRAY_INDEX.getName();
                case 8: return at(a, b);
                default: return "" + count(a);
            }
        }

        boolean isStack(int s) {
            return 0 <= s && s < stacks.size();
        }

        String put(int stack, int group) {
            if (!isStack(stack)) {
                return ARRAY_INDEX.getName();
            }
            if (group < 1 || group > 20) {
                return ARGUMENT.getName();
            }
            if (stacks.get(stack).size() == tiers || all(stacks).size() == 6) {
                return STATE.getName();
            }
            stacks.get(stack).add(group);
            return "" + stacks.get(stack).size();
        }

        String off(int stack) {
            if (!isStack(stack)) {
                return ARRAY_INDEX.getName();
            }
            if (stacks.get(stack).isEmpty()) {
                return NO_ELEMENT.getName();
            }
            return "" + lift(stacks.get(stack));
        }

        String at(int stack, int tier) {
            if (!isStack(stack) || tier < 0 || tier >= tiers) {
                return ARRAY_INDEX.getName();
            }
            return "" + (tier < stacks.get(stack).size() ? stacks.get(stack).get(tier) : 0);
        }

        String move(int i, int side) {
            boolean there = way != null && 0 <= i && i < way.size() && 0 <= side && side <= 2;
            return there ? "" + way.get(i)[side] : INDEX.getName();
        }

        String solve(int newManner, int most) {
            if (newManner < 0 || newManner > 2 || most < 0 || most > 30) {
                return ARGUMENT.getName();
            }
            way = null;
            List<int[]> found = firstLeast(newManner);
            if (found == null || found.size() > 30) {
                return "-2";
            }
            if (found.size() > most) {
                return "-1";
            }
            way = found;
            manner = newManner;
            start = copy(stacks);
            return "" + found.size();
        }

        String follow() {
            if (way == null || !stacks.equals(start)) {
                return STATE.getName();
            }
            int before = all(stacks).size();
            settle(stacks, manner);
            for (int[] m : way) {
                stacks.get(m[1]).add(lift(stacks.get(m[0])));
                settle(stacks, manner);
            }
            return "" + (before - all(stacks).size());
        }

        int count(int what) {
            if (what >= 0 && what <= 2) {
                return new int[] {all(stacks).size(), stacks.size(), tiers}[what];
            }
            if (way == null || what < 3 || what > 5) {
                return -1;
            }
            int travel = 0;
            for (int[] m : way) {
                travel += 2 + Math.abs(m[0] - m[1]);
            }
            return new int[] {way.size(), travel, manner}[what - 3];
        }

        /** A yard with the way that led to it. */
        private static final class Reached {
            final List<List<Integer>> yard;
            final List<int[]> way;

            Reached(List<List<Integer>> yard, List<int[]> way) {
                this.yard = yard;
                this.way = way;
            }
        }

        List<int[]> firstLeast(int newManner) {
            List<List<Integer>> first = copy(stacks);
            settle(first, newManner);
            List<Reached> row = new ArrayList<>();
            row.add(new Reached(first, new ArrayList<>()));
            Set<List<List<Integer>>> seen = new HashSet<>();
            seen.add(first);
            for (int r = 0; r < row.size(); r++) {
                Reached now = row.get(r);
                if (newManner == 2 ? blocked(now.yard) == 0 : all(now.yard).isEmpty()) {
                    return now.way;
                }
                for (int from = 0; from < stacks.size(); from++) {
                    for (int to = 0; to < stacks.size(); to++) {
                        List<List<Integer>> then = moved(now.yard, from, to, newManner);
                        if (then != null && seen.add(then)) {
                            List<int[]> longer = new ArrayList<>(now.way);
                            List<Integer> source = now.yard.get(from);
                            longer.add(new int[] {from, to, source.get(source.size() - 1)});
                            row.add(new Reached(then, longer));
                        }
                    }
                }
            }
            return null;
        }

        List<List<Integer>> moved(List<List<Integer>> yard, int from, int to, int newManner) {
            List<Integer> source = yard.get(from);
            boolean open = newManner != 0 || source.contains(next(yard));
            if (from == to || source.isEmpty() || yard.get(to).size() == tiers || !open) {
                return null;
            }
            List<List<Integer>> then = copy(yard);
            then.get(to).add(lift(then.get(from)));
            settle(then, newManner);
            return then;
        }

        int rule() {
            List<List<Integer>> yard = copy(stacks);
            settle(yard, 0);
            int moves = 0;
            while (!all(yard).isEmpty()) {
                int from = ruleFrom(yard);
                int box = yard.get(from).get(yard.get(from).size() - 1);
                int to = ruleTo(yard, from, box);
                if (to < 0) {
                    return -1;
                }
                yard.get(to).add(lift(yard.get(from)));
                settle(yard, 0);
                moves++;
            }
            return moves;
        }

        int ruleFrom(List<List<Integer>> yard) {
            Integer next = next(yard);
            for (int above = 0; above < tiers; above++) {
                for (int s = 0; s < yard.size(); s++) {
                    int highest = yard.get(s).lastIndexOf(next);
                    if (highest >= 0 && yard.get(s).size() - 1 - highest == above) {
                        return s;
                    }
                }
            }
            throw new AssertionError("no box of the next group");
        }

        int ruleTo(List<List<Integer>> yard, int from, int box) {
            for (int i = 0; i <= 20; i++) {
                // First the least groups from the box's up to 21, then those below it, the greatest first.
                int least = box + i <= 21 ? box + i : 21 - i;
                for (int s = 0; s < yard.size(); s++) {
                    int there = yard.get(s).isEmpty() ? 21 : yard.get(s).stream().min(Integer::compare).get();
                    if (s != from && yard.get(s).size() < tiers && there == least) {
                        return s;
                    }
                }
            }
            return -1;
        }

        static Integer lift(List<Integer> stack) {
            return stack.remove(stack.size() - 1);
        }

        static List<Integer> all(List<List<Integer>> yard) {
            List<Integer> boxes = new ArrayList<>();
            yard.forEach(boxes::addAll);
            return boxes;
        }

        static Integer next(List<List<Integer>> yard) {
            return all(yard).stream().min(Integer::compare).orElse(null);
        }

        static void settle(List<List<Integer>> yard, int manner) {
            boolean again = manner != 2;
            while (again) {
                again = false;
                Integer next = next(yard);
                for (List<Integer> stack : yard) {
                    if (!stack.isEmpty() && stack.get(stack.size() - 1).equals(next)) {
                        lift(stack);
                        again = true;
                        break;
                    }
                }
            }
        }

        static int blocked(List<List<Integer>> yard) {
            int blocked = 0;
            for (List<Integer> stack : yard) {
                for (int i = 1; i < stack.size(); i++) {
                    int group = stack.get(i);
                    blocked += stack.subList(0, i).stream().anyMatch(below -> below < group) ? 1 : 0;
                }
            }
            return blocked;
        }

        static List<List<Integer>> copy(List<List<Integer>> yard) {
            List<List<Integer>> same = new ArrayList<>();
            yard.forEach(stack -> same.add(new ArrayList<>(stack)));
            return same;
        }
    }
}
