import java.lang.reflect.Constructor;
import java.lang.reflect.Field;
import java.lang.reflect.Method;
import java.lang.reflect.Modifier;
import java.util.Arrays;
import java.util.TreeSet;

/** The promises of the document one by one: ordinary inputs, the edges it names, wrong inputs. */
public final class PromisesTest extends Check {
    private interface Bare {
        int run();
    }

    public static void main(String[] args) {
        each(
                PromisesTest::face,
                PromisesTest::newObject,
                PromisesTest::put,
                PromisesTest::off,
                PromisesTest::solve,
                PromisesTest::solveByManner,
                PromisesTest::solveFirstOfTheLeast,
                PromisesTest::solveDropsAndKeeps,
                PromisesTest::move,
                PromisesTest::follow,
                PromisesTest::followChecksTheStacks,
                PromisesTest::blocked,
                PromisesTest::rule,
                PromisesTest::ruleTies,
                PromisesTest::travel,
                PromisesTest::at,
                PromisesTest::count,
                PromisesTest::groupsComeAndGo,
                PromisesTest::exampleOfTheReadme);
        end();
    }

    private static void dies(String what, Class<?> want, Bare call) {
        due(what, answer(null, none -> call.run()), want.getName());
    }

    private static void face() {
        Class<?> c = ReshuffleSearch.class;
        due("the class is public and final", c.getModifiers(), Modifier.PUBLIC | Modifier.FINAL);
        TreeSet<String> got = new TreeSet<>();
        for (Method m : c.getDeclaredMethods()) {
            if (!Modifier.isPrivate(m.getModifiers())) {
                got.add(m.toString());
            }
        }
        for (Field f : c.getDeclaredFields()) {
            if (!Modifier.isPrivate(f.getModifiers())) {
                got.add(f.toString());
            }
        }
        for (Constructor<?> k : c.getDeclaredConstructors()) {
            got.add(k.toString());
        }
        String lang = "java.lang.";
        String at = lang + "ArrayIndexOutOfBoundsException";
        String r = "ReshuffleSearch.";
        due("the face", got.toString(), new TreeSet<>(Arrays.asList(
                "public static final int " + r + "NONE",
                "public ReshuffleSearch(int,int)",
                "public int " + r + "put(int,int) throws " + at + "," + lang + "IllegalArgumentException," + lang
                        + "IllegalStateException",
                "public int " + r + "off(int) throws " + at + ",java.util.NoSuchElementException",
                "public int " + r + "solve(int,int) throws " + lang + "IllegalArgumentException",
                "public int " + r + "move(int,int) throws " + lang + "IndexOutOfBoundsException",
                "public int " + r + "follow() throws " + lang + "IllegalStateException",
                "public int " + r + "blocked()",
                "public int " + r + "rule()",
                "public int " + r + "travel(int,int) throws " + at,
                "public int " + r + "at(int,int) throws " + at,
                "public int " + r + "count(int)")).toString());
        due("NONE", ReshuffleSearch.NONE, -1);
    }

    /** Promise 1. */
    private static void newObject() {
        for (int stacks = -1; stacks <= 7; stacks++) {
            for (int tiers = -1; tiers <= 7; tiers++) {
                ReshuffleSearch x = new ReshuffleSearch(stacks, tiers);
                due("stacks of " + stacks, x.count(1), stacks >= 2 && stacks <= 4 ? stacks : 3);
                due("tiers of " + tiers, x.count(2), tiers >= 2 && tiers <= 4 ? tiers : 3);
                due("boxes of a new object", x.count(0), 0);
                due("way of a new object", x.count(3), -1);
            }
        }
        for (int w : WILD) {
            due("stacks of " + w, new ReshuffleSearch(w, 4).count(1), 3);
            due("tiers beside stacks of " + w, new ReshuffleSearch(w, 4).count(2), 4);
            due("tiers of " + w, new ReshuffleSearch(2, w).count(2), 3);
            due("stacks beside tiers of " + w, new ReshuffleSearch(2, w).count(1), 2);
        }
    }

    /** Promise 2. */
    private static void put() {
        ReshuffleSearch x = new ReshuffleSearch(2, 4);
        due("put(0, 1)", x.put(0, 1), 1);
        due("put(0, 20)", x.put(0, 20), 2);
        due("put(1, 5)", x.put(1, 5), 1);
        due("put(0, 5)", x.put(0, 5), 3);
        due("put(0, 5) again", x.put(0, 5), 4);
        due("the stacks", shown(x), "atee/e.../");
        dies("put onto a full stack", STATE, () -> x.put(0, 1));
        dies("no group 0, ahead of a full stack", ARGUMENT, () -> x.put(0, 0));
        dies("no group 21, ahead of a full stack", ARGUMENT, () -> x.put(0, 21));
        dies("no stack 2, ahead of no group", ARRAY_INDEX, () -> x.put(2, 21));
        dies("no stack -1, ahead of no group", ARRAY_INDEX, () -> x.put(-1, 0));
        dies("no stack 2", ARRAY_INDEX, () -> x.put(2, 1));
        due("put(1, 6)", x.put(1, 6), 2);
        dies("a seventh box", STATE, () -> x.put(1, 6));
        dies("a seventh box of no group", ARGUMENT, () -> x.put(1, -1));
        for (int w : WILD) {
            dies("no stack " + w, ARRAY_INDEX, () -> x.put(w, w));
            dies("no group " + w, ARGUMENT, () -> x.put(1, w));
        }
        due("the stacks behind what threw", shown(x), "atee/ef../");
        dies("stack 2 of two by two", ARRAY_INDEX, () -> new ReshuffleSearch(2, 2).put(2, 1));
        due("stack 3 of four", new ReshuffleSearch(4, 2).put(3, 1), 1);
        ReshuffleSearch low = yard(2, "ab", "");
        dies("a third box onto two tiers", STATE, () -> low.put(0, 1));
        due("put onto the other one", low.put(1, 3), 1);
    }

    /** Promise 3. */
    private static void off() {
        ReshuffleSearch x = yard(3, "abt", "", "c");
        due("off(0)", x.off(0), 20);
        due("off(0), second", x.off(0), 2);
        due("the stacks", shown(x), "a../.../c../");
        dies("off an empty stack", NO_ELEMENT, () -> x.off(1));
        dies("off stack 3", ARRAY_INDEX, () -> x.off(3));
        for (int w : WILD) {
            dies("off stack " + w, ARRAY_INDEX, () -> x.off(w));
        }
        due("the stacks behind what threw", shown(x), "a../.../c../");
        due("off(0), third", x.off(0), 1);
        dies("off a stack that became empty", NO_ELEMENT, () -> x.off(0));
        due("boxes", x.count(0), 1);
        due("put behind off", x.put(0, 9), 1);
        due("the stacks behind put", shown(x), "i../.../c../");
    }

    /** Promise 4: the answers and the wrong inputs. */
    private static void solve() {
        ReshuffleSearch empty = new ReshuffleSearch(2, 2);
        for (int manner = 0; manner <= 2; manner++) {
            due("solve of an empty yard", empty.solve(manner, 0), 0);
            due("its moves", empty.count(3), 0);
            due("its travel", empty.count(4), 0);
            due("its manner", empty.count(5), manner);
        }
        ReshuffleSearch x = yard(3, "acb", "d", "");
        due("solve(0, 2)", x.solve(0, 2), 2);
        due("its way", way(x), "01b 02c");
        due("solve(0, 1)", x.solve(0, 1), -1);
        due("solve(0, 0)", x.solve(0, 0), -1);
        due("solve leaves the stacks alone", shown(x), "acb/d../.../");
        x.solve(0, 30);
        String before = everything(x);
        dies("manner 3", ARGUMENT, () -> x.solve(3, 30));
        dies("manner -1", ARGUMENT, () -> x.solve(-1, 30));
        dies("most 31", ARGUMENT, () -> x.solve(0, 31));
        dies("most -1", ARGUMENT, () -> x.solve(0, -1));
        for (int w : WILD) {
            dies("manner " + w, ARGUMENT, () -> x.solve(w, 30));
            dies("most " + w, ARGUMENT, () -> x.solve(1, w));
        }
        due("a way behind what threw", everything(x), before);
        ReshuffleSearch full = yard(3, "abc", "def");
        for (int manner = 0; manner <= 2; manner++) {
            due("solve of a full yard", full.solve(manner, 30), -2);
            due("solve of a full yard with most 0", full.solve(manner, 0), -2);
        }
        ReshuffleSearch two = yard(4, "abb", "");
        due("solve of two stacks to marshal", two.solve(2, 30), 2);
        due("its way", way(two), "01b 01b");
        ReshuffleSearch stuck = yard(3, "acb", "");
        due("no order of two stacks", stuck.solve(2, 5), -2);
    }

    /** Promise 4: where the manners part. */
    private static void solveByManner() {
        // Unrestricted, the d's come together first, and the e's find an empty stack.
        ReshuffleSearch x = yard(4, "d", "cee", "d");
        due("restricted", x.solve(0, 30), 4);
        due("lifts from the next group's stack alone", x.move(0, 0), 1);
        due("unrestricted behind restricted", x.solve(1, 30), 3);
        due("restricted behind unrestricted", x.solve(0, 30), 4);
        due("follow", x.follow(), 5);
        ReshuffleSearch free = yard(4, "d", "cee", "d");
        due("unrestricted", free.solve(1, 30), 3);
        due("lifts from any stack", way(free), "02d 10e 10e");
        due("follow", free.follow(), 5);
        ReshuffleSearch taken = yard(2, "b", "b", "a");
        due("boxes that leave need no move", taken.solve(0, 0), 0);
        due("the boxes are still there", taken.count(0), 3);
        due("in order as it is", taken.solve(2, 0), 0);
        ReshuffleSearch same = yard(4, "aaaa", "bb");
        due("equal groups block none", same.solve(1, 0), 0);
        due("equal groups are in order", same.solve(2, 0), 0);
    }

    /** Promise 4: of the least ways the first one. */
    private static void solveFirstOfTheLeast() {
        ReshuffleSearch x = yard(2, "", "ab", "", "");
        for (int manner = 0; manner <= 2; manner++) {
            due("one move", x.solve(manner, 30), 1);
            due("to the least stack", way(x), "10b");
        }
        ReshuffleSearch both = yard(2, "ac", "ab", "", "");
        due("two moves", both.solve(0, 30), 2);
        due("from the least stack first", way(both), "02c 10b");
        due("two moves unrestricted", both.solve(1, 30), 2);
        due("the same way", way(both), "02c 10b");
        ReshuffleSearch marshal = yard(3, "ab", "ab", "");
        due("two moves to marshal", marshal.solve(2, 30), 2);
        due("onto the empty one", way(marshal), "02b 12b");
        due("travel of them", marshal.count(4), 7);
    }

    /** Promise 4: what is kept, and when it is not. */
    private static void solveDropsAndKeeps() {
        ReshuffleSearch x = yard(3, "ab", "", "");
        x.solve(1, 30);
        due("a way is kept", way(x), "01b");
        due("behind it -1", x.solve(1, 0), -1);
        due("then none is kept", x.count(3), -1);
        dies("nor followed", STATE, x::follow);
        x.solve(1, 30);
        x.put(1, 3);
        due("put keeps the way", way(x), "01b");
        x.off(0);
        due("off keeps the way", way(x), "01b");
        ReshuffleSearch stuck = yard(2, "a", "b");
        stuck.solve(0, 30);
        stuck.put(0, 2);
        stuck.put(1, 3);
        due("the way from before", stuck.count(3), 0);
        due("no way", stuck.solve(0, 30), -2);
        due("then none is kept", stuck.count(3), -1);
        dies("nor followed", STATE, stuck::follow);
    }

    /** Promise 5. */
    private static void move() {
        ReshuffleSearch x = yard(3, "att", "", "s");
        dies("without a way", INDEX, () -> x.move(0, 0));
        due("solve", x.solve(0, 30), 2);
        due("from", x.move(1, 0), 0);
        due("to", x.move(1, 1), 1);
        due("group", x.move(1, 2), 20);
        dies("side 3", INDEX, () -> x.move(0, 3));
        dies("side -1", INDEX, () -> x.move(0, -1));
        dies("move 2", INDEX, () -> x.move(2, 0));
        dies("move -1", INDEX, () -> x.move(-1, 0));
        dies("move 29", INDEX, () -> x.move(29, 0));
        dies("move 30", INDEX, () -> x.move(30, 0));
        for (int w : WILD) {
            dies("move " + w, INDEX, () -> x.move(w, 0));
            dies("side " + w, INDEX, () -> x.move(0, w));
        }
        x.off(0);
        x.off(0);
        x.blocked();
        x.rule();
        due("the group behind off", x.move(0, 2), 20);
        x.solve(0, 30);
        dies("of a way without moves", INDEX, () -> x.move(0, 0));
    }

    /** Promise 6. */
    private static void follow() {
        ReshuffleSearch none = new ReshuffleSearch(3, 3);
        dies("without a way", STATE, none::follow);
        ReshuffleSearch x = yard(3, "acb", "d", "");
        x.solve(0, 30);
        due("follow", x.follow(), 4);
        due("the stacks", shown(x), ".../.../.../");
        due("the way is kept on", way(x), "01b 02c");
        dies("follow again", STATE, x::follow);
        ReshuffleSearch marshal = yard(3, "atb", "d", "");
        due("solve", marshal.solve(2, 30), 2);
        due("its way", way(marshal), "01b 02t");
        due("follow", marshal.follow(), 0);
        due("the stacks", shown(marshal), "a../db./t../");
        dies("follow again", STATE, marshal::follow);
        ReshuffleSearch free = yard(3, "cba", "", "t");
        due("no move", free.solve(1, 0), 0);
        due("all leave", free.follow(), 4);
        due("the stacks", shown(free), ".../.../.../");
        due("an empty yard", free.solve(0, 30), 0);
        due("follow nothing", free.follow(), 0);
        due("follow nothing again", free.follow(), 0);
    }

    private static void followChecksTheStacks() {
        ReshuffleSearch x = yard(3, "acb", "d", "");
        x.solve(0, 30);
        x.put(2, 20);
        String before = everything(x);
        dies("with a box more", STATE, x::follow);
        due("what threw changed nothing", everything(x), before);
        x.off(2);
        x.off(1);
        dies("with a box less", STATE, x::follow);
        x.put(1, 5);
        dies("with a box of another group in the same order", STATE, x::follow);
        x.off(1);
        x.put(2, 4);
        dies("with a box elsewhere", STATE, x::follow);
        x.off(2);
        x.put(1, 4);
        due("as they were", x.follow(), 4);
        x.put(0, 1);
        x.put(0, 3);
        x.put(0, 2);
        x.put(1, 4);
        due("as they were once more", x.follow(), 4);
    }

    /** Promise 7. */
    private static void blocked() {
        due("none there", new ReshuffleSearch(4, 4).blocked(), 0);
        due("in order", yard(4, "tsrq", "", "ba").blocked(), 0);
        due("equal ones", yard(4, "aaaa", "bb").blocked(), 0);
        due("by the lowest", yard(4, "adcb", "e", "t").blocked(), 3);
        due("by one in between", yard(4, "dacb", "").blocked(), 2);
        due("not by one above", yard(4, "cba", "ab").blocked(), 1);
        due("an equal one above a lesser", yard(4, "baab", "").blocked(), 1);
        ReshuffleSearch x = yard(3, "ab", "");
        due("blocked", x.blocked(), 1);
        due("blocked changes nothing", shown(x), "ab./.../");
    }

    /** Promise 8. */
    private static void rule() {
        due("none there", new ReshuffleSearch(2, 2).rule(), 0);
        due("all leave", yard(3, "cba", "", "b").rule(), 0);
        due("no stack is open", yard(2, "ab", "cd").rule(), -1);
        due("none open behind a move", yard(3, "abc", "de").rule(), -1);
        ReshuffleSearch x = yard(3, "acb", "d", "");
        x.solve(2, 30);
        String before = everything(x);
        due("two moves", x.rule(), 2);
        due("rule changes nothing", everything(x), before);
        // b goes onto d (the least that fits), not onto the empty stack, so that e finds that one.
        due("the tightest fit", yard(3, "", "aeb", "d").rule(), 2);
        due("an equal group fits", yard(4, "e", "afe", "").rule(), 2);
        // t fits on an empty stack alone, as that counts as 21.
        due("empty counts as 21", yard(3, "at", "s", "").rule(), 1);
        // Without a fit d goes onto c (the greatest least), from where it moves once more.
        due("the greatest least", yard(2, "ad", "b", "c").rule(), 2);
        due("the greatest least, not the first", yard(4, "eafd", "c", "").rule(), 3);
        due("the rule may need more than the least ways", yard(4, "ab", "af").solve(0, 30), 3);
        due("its own stack is no answer", yard(2, "ab", "cd", "ef").rule(), -1);
    }

    /** Promise 8: which of equal ones. */
    private static void ruleTies() {
        due("fewest above", yard(4, "cde", "cd").rule(), 5);
        // Both a's have one above: b goes onto f and has to come back.
        due("the least stack to lift from", yard(4, "ab", "af").rule(), 4);
        due("the least stack to lay on", yard(3, "cb", "bf", "ac").rule(), 4);
    }

    /** Promise 9. */
    private static void travel() {
        ReshuffleSearch x = new ReshuffleSearch(4, 2);
        for (int from = 0; from < 4; from++) {
            for (int to = 0; to < 4; to++) {
                due("travel(" + from + ", " + to + ")", x.travel(from, to), 2 + Math.abs(from - to));
            }
        }
        dies("from 4", ARRAY_INDEX, () -> x.travel(4, 0));
        dies("to 4", ARRAY_INDEX, () -> x.travel(0, 4));
        for (int w : WILD) {
            dies("from " + w, ARRAY_INDEX, () -> x.travel(w, 0));
            dies("to " + w, ARRAY_INDEX, () -> x.travel(0, w));
        }
        dies("to 2 of two", ARRAY_INDEX, () -> new ReshuffleSearch(2, 4).travel(0, 2));
    }

    /** Promise 10. */
    private static void at() {
        ReshuffleSearch x = yard(4, "abt", "", "c");
        due("the stacks", shown(x), "abt./..../c.../");
        due("bottom", x.at(0, 0), 1);
        due("top", x.at(0, 2), 20);
        due("above", x.at(0, 3), 0);
        dies("tier 4", ARRAY_INDEX, () -> x.at(0, 4));
        dies("tier -1 of stack 1", ARRAY_INDEX, () -> x.at(1, -1));
        dies("stack 3", ARRAY_INDEX, () -> x.at(3, 0));
        for (int w : WILD) {
            dies("stack " + w, ARRAY_INDEX, () -> x.at(w, 0));
            dies("tier " + w, ARRAY_INDEX, () -> x.at(0, w));
        }
        dies("tier 2 of two", ARRAY_INDEX, () -> new ReshuffleSearch(4, 2).at(0, 2));
    }

    /** Promise 11. */
    private static void count() {
        ReshuffleSearch x = yard(4, "abc", "d");
        int[] without = {4, 2, 4, -1, -1, -1, -1};
        for (int what = 0; what < without.length; what++) {
            due("count(" + what + ") without a way", x.count(what), without[what]);
        }
        due("solve", x.solve(1, 30), 2);
        due("the way", way(x), "01c 01b");
        int[] with = {4, 2, 4, 2, 6, 1, -1};
        for (int what = 0; what < with.length; what++) {
            due("count(" + what + ")", x.count(what), with[what]);
        }
        for (int w : WILD) {
            due("count(" + w + ")", x.count(w), -1);
        }
        ReshuffleSearch far = yard(2, "ab", "c", "d", "");
        due("solve", far.solve(0, 30), 1);
        due("travel of one move", far.count(4), far.travel(far.move(0, 0), far.move(0, 1)));
    }

    /** Groups that were there once count no more. */
    private static void groupsComeAndGo() {
        ReshuffleSearch x = new ReshuffleSearch(3, 3);
        for (int group = 1; group <= 18; group++) {
            x.put(0, group);
            due("one box is not blocked", x.blocked(), 0);
            due("one box leaves", x.solve(0, 0), 0);
            due("its group", x.off(0), group);
        }
        x.put(0, 18);
        x.put(0, 20);
        x.put(0, 19);
        due("two are blocked", x.blocked(), 2);
        due("two moves", x.solve(1, 30), 2);
        due("their way", way(x), "01s 02t");
        due("two moves of the rule", x.rule(), 2);
        due("three leave", x.follow(), 3);
    }

    private static void exampleOfTheReadme() {
        ReshuffleSearch yard = new ReshuffleSearch(3, 3);
        due("put(0, 1)", yard.put(0, 1), 1);
        due("put(0, 3)", yard.put(0, 3), 2);
        due("put(0, 2)", yard.put(0, 2), 3);
        due("put(1, 4)", yard.put(1, 4), 1);
        due("blocked()", yard.blocked(), 2);
        due("rule()", yard.rule(), 2);
        due("solve(0, 30)", yard.solve(0, 30), 2);
        due("the way", way(yard), "01b 02c");
        due("count(4)", yard.count(4), 7);
        due("follow()", yard.follow(), 4);
    }
}
