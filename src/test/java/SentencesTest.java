/**
 * Each sentence of the document that names a boundary, in the document's order and with a test of
 * its own. No object is called more than 512 times.
 */
public final class SentencesTest extends Check {
    public static void main(String[] args) {
        each(
                SentencesTest::atMost512Calls,
                SentencesTest::none,
                SentencesTest::stacksAndTiers,
                SentencesTest::sixBoxes,
                SentencesTest::groups,
                SentencesTest::blockedByALesserOneBelow,
                SentencesTest::nextGroup,
                SentencesTest::leaveAtOnce,
                SentencesTest::ontoAnotherThatIsNotFull,
                SentencesTest::restricted,
                SentencesTest::unrestricted,
                SentencesTest::leaveAheadAndBehind,
                SentencesTest::toMarshal,
                SentencesTest::leastWays,
                SentencesTest::firstOfThem,
                SentencesTest::ruleLeavesFirst,
                SentencesTest::ruleLifts,
                SentencesTest::ruleLays,
                SentencesTest::ruleLaysWithoutAFit,
                SentencesTest::ruleWithoutAnswer,
                SentencesTest::travelOfAMove,
                SentencesTest::whatThrowsChangesNothing,
                SentencesTest::toldFirst,
                SentencesTest::soManyStacks,
                SentencesTest::soManyTiers,
                SentencesTest::newObjectIsEmpty,
                SentencesTest::howManyStandThere,
                SentencesTest::putNoSuchStack,
                SentencesTest::putNoSuchGroup,
                SentencesTest::putOntoAFullStack,
                SentencesTest::putASeventhBox,
                SentencesTest::offTakesTheTop,
                SentencesTest::offNoSuchStack,
                SentencesTest::offAnEmptyStack,
                SentencesTest::solveCounts,
                SentencesTest::solveKeeps,
                SentencesTest::solveMoreThanSoMany,
                SentencesTest::solveNoWay,
                SentencesTest::solveNoSuchManner,
                SentencesTest::solveMost,
                SentencesTest::moveSides,
                SentencesTest::moveNoneSuch,
                SentencesTest::followGoesThrough,
                SentencesTest::followOfAWayToMarshal,
                SentencesTest::followWithoutAWay,
                SentencesTest::followOnOtherStacks,
                SentencesTest::howManyAreBlocked,
                SentencesTest::howManyMovesTheRuleMakes,
                SentencesTest::travelNoSuchStack,
                SentencesTest::atEmptyPlace,
                SentencesTest::atNoSuchPlace,
                SentencesTest::countOfTheYard,
                SentencesTest::countOfTheWay,
                SentencesTest::countWithoutAWay,
                SentencesTest::countOfAnotherWhat);
        end();
    }

    private static void atMost512Calls() {
        says("An object is used for at most 512 calls after it has been made");
        ReshuffleSearch x = yard(4, "ac", "bade");
        for (int call = 7; call < 510; call++) {
            due("call " + call, x.solve(call % 3, 30), call % 3 == 2 ? -2 : 11);
        }
        due("call 510", x.solve(0, 11), 11);
        due("call 511", x.move(10, 2), 5);
        due("call 512", x.follow(), 6);
    }

    private static void none() {
        says("NONE = -1");
        due("NONE", ReshuffleSearch.NONE, -1);
    }

    private static void stacksAndTiers() {
        says("STACKS 0 .. (2 to 4) of so many TIERS (2 to 4)");
        for (int stacks = 2; stacks <= 4; stacks++) {
            for (int tiers = 2; tiers <= 4; tiers++) {
                int last = stacks - 1;
                int above = tiers;
                int beside = stacks;
                ReshuffleSearch x = new ReshuffleSearch(stacks, tiers);
                for (int t = 0; t < tiers; t++) {
                    due("put onto the last stack", x.put(last, 20 - t), t + 1);
                }
                due("put onto stack 0", x.put(0, 1), 1);
                due("the highest tier of the last stack", x.at(last, tiers - 1), 21 - tiers);
                refused("a stack beside", ARRAY_INDEX, x, y -> y.at(beside, 0));
                refused("a tier above", ARRAY_INDEX, x, y -> y.at(0, above));
            }
        }
    }

    private static void sixBoxes() {
        says("at most 6 boxes in all");
        for (int stacks = 2; stacks <= 4; stacks++) {
            for (int tiers = 2; tiers <= 4; tiers++) {
                ReshuffleSearch x = new ReshuffleSearch(stacks, tiers);
                int most = Math.min(6, stacks * tiers);
                for (int box = 0; box < most; box++) {
                    due("box " + box, x.put(box % stacks, 7), box / stacks + 1);
                }
                due("boxes", x.count(0), most);
                for (int s = 0; s < stacks; s++) {
                    int stack = s;
                    refused("one more onto stack " + s, STATE, x, y -> y.put(stack, 7));
                }
            }
        }
    }

    private static void groups() {
        says("each of a GROUP 1 .. 20");
        ReshuffleSearch x = new ReshuffleSearch(2, 2);
        for (int group = 1; group <= 20; group++) {
            due("put of group " + group, x.put(1, group), 1);
            due("at", x.at(1, 0), group);
            due("off", x.off(1), group);
        }
        ReshuffleSearch ends = yard(2, "at", "");
        due("20 above 1 is blocked", ends.blocked(), 1);
        due("one move", ends.solve(1, 30), 1);
        due("of group 20", ends.move(0, 2), 20);
    }

    private static void blockedByALesserOneBelow() {
        says("A box is BLOCKED if one of a lesser group stands somewhere below it in its stack");
        due("right below", yard(2, "ab", "").blocked(), 1);
        due("right below, by one group", yard(2, "st", "").blocked(), 1);
        due("an equal one below", yard(2, "bb", "").blocked(), 0);
        due("a greater one below", yard(2, "ba", "").blocked(), 0);
        due("three below", yard(4, "bddc", "").blocked(), 3);
        due("the lowest is the only lesser one", yard(4, "accb", "").blocked(), 3);
        due("one between is the only lesser one", yard(4, "caab", "").blocked(), 1);
        due("a lesser one above", yard(4, "cba", "").blocked(), 0);
        due("a lesser one in the stack beside", yard(4, "b", "a").blocked(), 0);
        due("in each stack", yard(2, "ab", "ab", "", "ab").blocked(), 3);
        due("as many as can be", yard(4, "abcd", "ab").blocked(), 4);
    }

    private static void nextGroup() {
        says("THE NEXT GROUP is the least one of all boxes that are there");
        due("one that is covered counts", yard(3, "ab", "b", "").solve(0, 30), 1);
        due("so does one in the last stack", yard(2, "b", "b", "b", "ab").solve(0, 30), 1);
        due("not the least group there may be", yard(3, "gt", "k", "").solve(0, 30), 1);
        ReshuffleSearch gone = yard(3, "ba", "b", "");
        gone.off(0);
        due("one that was taken off counts no more", gone.solve(0, 0), 0);
        due("nor for the rule", gone.rule(), 0);
        ReshuffleSearch many = yard(3, "", "", "");
        for (int group = 1; group <= 18; group++) {
            many.put(0, group);
            many.blocked();
            many.off(0);
        }
        many.put(0, 18);
        many.put(0, 20);
        many.put(0, 19);
        due("nor when it was one of many", many.solve(0, 30), 2);
        due("the groups that are there", way(many), "01s 02t");
    }

    private static void leaveAtOnce() {
        says("A box LEAVES when it stands on top and is of the next group: always at once, as long as there is such a "
                + "one (this is no move)");
        due("one", yard(2, "a", "").solve(0, 0), 0);
        due("six, one behind the other, by turns", yard(4, "eca", "fdb").solve(0, 0), 0);
        due("equal ones of all stacks", yard(2, "aa", "a", "aa", "a").solve(1, 0), 0);
        ReshuffleSearch x = yard(3, "a", "bc", "");
        due("solve", x.solve(1, 30), 1);
        due("a is gone when c moves", way(x), "10c");
        due("boxes that left", x.follow(), 3);
    }

    private static void ontoAnotherThatIsNotFull() {
        says("A MOVE: the top box of a stack comes onto another stack that is not full");
        ReshuffleSearch full = yard(2, "ab", "cc", "", "");
        due("solve", full.solve(0, 30), 1);
        due("past the full one", way(full), "02b");
        ReshuffleSearch last = yard(3, "ab", "cc", "", "");
        due("solve", last.solve(0, 30), 1);
        due("onto the last place", way(last), "01b");
        ReshuffleSearch top = yard(4, "abcd", "", "");
        due("solve", top.solve(2, 30), 3);
        due("the top box first", way(top), "01d 01c 01b");
        for (int manner = 0; manner <= 2; manner++) {
            due("no other one is open", yard(2, "ab", "cd").solve(manner, 30), -2);
        }
    }

    private static void restricted() {
        says("RESTRICTED only of stacks in which a box of the next group stands");
        ReshuffleSearch x = yard(4, "d", "cee", "d");
        due("solve", x.solve(0, 30), 4);
        due("no move of a d before c left", way(x), "10e 10e 01e 01e");
        ReshuffleSearch second = yard(4, "ab", "af");
        due("solve", second.solve(0, 30), 3);
        due("of any stack with one, not of the first alone", way(second), "10f 01f 01b");
    }

    private static void unrestricted() {
        says("UNRESTRICTED of any");
        ReshuffleSearch x = yard(4, "d", "cee", "d");
        due("solve", x.solve(1, 30), 3);
        due("a stack without the next group first", way(x), "02d 10e 10e");
        ReshuffleSearch any = yard(2, "b", "ad", "c");
        due("solve", any.solve(1, 30), 2);
        due("a stack without the next group first", way(any), "02b 10d");
    }

    private static void leaveAheadAndBehind() {
        says("A WAY is a row of moves behind which all boxes have left (boxes leave ahead of the first one, and behind "
                + "each)");
        ReshuffleSearch ahead = yard(2, "ca", "bd");
        due("all places are taken, but a leaves ahead", ahead.solve(0, 30), 2);
        due("onto its place", way(ahead), "10d 01d");
        due("all have left", ahead.follow(), 4);
        due("the stacks", shown(ahead), "../../");
        ReshuffleSearch behind = yard(2, "ac", "bd", "e");
        due("a leaves behind the first move and makes room", behind.solve(1, 30), 2);
        due("room for d", way(behind), "02c 10d");
        due("all have left", behind.follow(), 5);
        due("an empty yard", new ReshuffleSearch(2, 2).solve(1, 0), 0);
    }

    private static void toMarshal() {
        says("A way to MARSHAL is a row of moves (of any stacks; none leaves) behind which no box is blocked");
        ReshuffleSearch any = yard(2, "a", "bc", "");
        due("solve", any.solve(2, 30), 1);
        due("of a stack without the next group, onto the empty one", way(any), "12c");
        due("none leaves to make room", yard(2, "ca", "bd").solve(2, 30), -2);
        due("none is blocked", yard(4, "dcba", "b").solve(2, 0), 0);
        due("equal ones are not blocked", yard(4, "bbba", "aa").solve(2, 0), 0);
        due("one is blocked", yard(4, "dcab", "").solve(2, 30), 1);
        ReshuffleSearch onto = yard(2, "b", "ac", "b");
        due("solve", onto.solve(2, 30), 2);
        due("a box that is not blocked may move", way(onto), "02b 10c");
        onto.follow();
        due("none has left", shown(onto), "c./a./bb/");
        due("none is blocked behind it", onto.blocked(), 0);
    }

    private static void leastWays() {
        says("The LEAST ways have the fewest moves");
        due("longer ways come first in order, but are none", way(solved(0, yard(4, "ab", "af"))), "10f 01f 01b");
        due("as many as are blocked", yard(4, "abcd", "", "").solve(0, 30), 3);
        due("the longest restricted", yard(4, "ac", "bade").solve(0, 30), 11);
        due("the longest unrestricted", yard(4, "ac", "bade").solve(1, 30), 11);
    }

    private static void firstOfThem() {
        says("of these the FIRST one: moves compared one by one, by the stack from which, then by the stack to which");
        due("by the stack to which", way(solved(1, yard(2, "", "ab", "", ""))), "10b");
        due("past the own stack", way(solved(1, yard(2, "ab", "", "", ""))), "01b");
        due("by the stack from which", way(solved(1, yard(2, "ac", "ab", "", ""))), "02c 10b");
        due("from ahead of to, restricted", way(solved(0, yard(3, "ac", "ad", "b"))), "02c 10d 20c");
        due("from ahead of to, unrestricted", way(solved(1, yard(2, "b", "ad", "c"))), "02b 10d");
        due("from ahead of to, to marshal", way(solved(2, yard(2, "b", "ac", "b"))), "02b 10c");
        due("then by the second move", way(solved(0, yard(4, "abc", "", "", ""))), "01c 01b");
        due("the first move counts most", way(solved(0, yard(4, "abc", "a", "b", ""))), "01c 01b");
    }

    private static void ruleLeavesFirst() {
        says("THE RULE (of stacks as they are): boxes leave");
        due("all leave", yard(4, "eca", "fdb").rule(), 0);
        due("a leaves and makes room", yard(2, "ca", "bd").rule(), 2);
        ReshuffleSearch x = yard(3, "ab", "");
        due("of the stacks as they are", x.rule(), 1);
        x.off(0);
        due("of the stacks as they are now", x.rule(), 0);
    }

    private static void ruleLifts() {
        says("the stack with a box of the next group that has the fewest boxes above its highest such one (of such the "
                + "least)");
        due("the fewest above, in the second stack", yard(4, "abb", "ab").rule(), 4);
        due("the fewest above, in the first stack", yard(4, "ac", "abc").rule(), 4);
        due("above the highest such one", yard(4, "aab", "ac").rule(), 4);
        due("boxes above, not boxes in all", yard(3, "bab", "ab").rule(), 3);
        due("the least of such, which is dear", yard(3, "ab", "ac").rule(), 4);
        due("the least of such, which is cheap", yard(3, "ac", "ab").rule(), 3);
    }

    private static void ruleLays() {
        says("to the stack, not itself and not full, of which the least group is not below the box's group (an empty "
                + "one counts as 21), and of these with the least such least group");
        due("not full", yard(3, "ac", "bbb", "").rule(), 1);
        due("the last place is open", yard(3, "", "acb", "cc").rule(), 2);
        due("an equal group is not below", yard(3, "", "acb", "b").rule(), 2);
        due("the least group, not the top one", yard(3, "", "ab", "ab").rule(), 2);
        due("the least group, not the lowest one", yard(3, "", "ac", "cb").rule(), 1);
        due("the empty one counts as a greater group", yard(2, "", "ac", "b").rule(), 1);
        due("the empty one counts as more than 19 and 20", yard(2, "rt", "s", "").rule(), 1);
        due("the least such least group is not the first one", yard(3, "", "adb", "c").rule(), 2);
        due("the least such least group is the first one", yard(3, "c", "adb", "").rule(), 2);
    }

    private static void ruleLaysWithoutAFit() {
        says("if there is none, to the one, not full, with the greatest least group (of such always the least stack)");
        due("one alone", yard(2, "ac", "b").rule(), 2);
        due("the greatest is the last", yard(3, "cad", "b", "c").rule(), 2);
        due("the greatest is the first", yard(3, "c", "b", "cad").rule(), 2);
        due("of equal ones the least stack, which is cheap", yard(3, "bd", "b", "cad").rule(), 3);
        due("of equal ones the least stack, which is dear", yard(3, "b", "bd", "cad").rule(), 4);
        due("the greatest is full", yard(2, "ad", "b", "cc").rule(), 2);
    }

    private static void ruleWithoutAnswer() {
        says("If no stack is open for it the rule has no answer");
        due("at once", yard(2, "ab", "cd").rule(), -1);
        due("its own stack is not open", yard(3, "ab", "ccc").rule(), -1);
        due("behind a move", yard(3, "abc", "de").rule(), -1);
        due("one place is enough", yard(3, "ab", "cc").rule(), 1);
    }

    private static void travelOfAMove() {
        says("TRAVEL of a move takes 2 and the distance of the stacks");
        ReshuffleSearch x = new ReshuffleSearch(4, 2);
        due("to the next one", x.travel(0, 1), 3);
        due("to the farthest one", x.travel(0, 3), 5);
        due("back", x.travel(3, 0), 5);
        due("in between", x.travel(3, 1), 4);
        due("nowhere", x.travel(2, 2), 2);
        for (int from = 0; from < 4; from++) {
            for (int to = 0; to < 4; to++) {
                due("travel(" + from + ", " + to + ")", x.travel(from, to), 2 + Math.max(from - to, to - from));
            }
        }
    }

    private static ReshuffleSearch withAWay() {
        return solved(1, yard(3, "acb", "ddd", ""));
    }

    private static void whatThrowsChangesNothing() {
        says("What throws changes nothing");
        refused("put(3, 1)", ARRAY_INDEX, withAWay(), x -> x.put(3, 1));
        refused("put(2, 0)", ARGUMENT, withAWay(), x -> x.put(2, 0));
        refused("put(1, 1)", STATE, withAWay(), x -> x.put(1, 1));
        refused("off(3)", ARRAY_INDEX, withAWay(), x -> x.off(3));
        refused("off(2)", NO_ELEMENT, withAWay(), x -> x.off(2));
        refused("solve(3, 30)", ARGUMENT, withAWay(), x -> x.solve(3, 30));
        refused("solve(0, 31)", ARGUMENT, withAWay(), x -> x.solve(0, 31));
        refused("move(9, 0)", INDEX, withAWay(), x -> x.move(9, 0));
        refused("move(0, 3)", INDEX, withAWay(), x -> x.move(0, 3));
        refused("travel(0, 3)", ARRAY_INDEX, withAWay(), x -> x.travel(0, 3));
        refused("at(0, 3)", ARRAY_INDEX, withAWay(), x -> x.at(0, 3));
        ReshuffleSearch other = withAWay();
        other.off(1);
        refused("follow() on other stacks", STATE, other, x -> x.follow());
        other.put(1, 4);
        due("follow() on the stacks of then", other.follow(), 6);
        ReshuffleSearch thrown = withAWay();
        answer(thrown, x -> x.put(1, 1));
        answer(thrown, x -> x.off(2));
        answer(thrown, x -> x.solve(-1, -1));
        due("follow() behind what threw", thrown.follow(), 6);
    }

    private static void toldFirst() {
        says("Of several exceptions the one told first is thrown");
        refused("no stack, no group, no room", ARRAY_INDEX, withAWay(), x -> x.put(3, 21));
        refused("no stack, no room", ARRAY_INDEX, withAWay(), x -> x.put(-1, 1));
        refused("no stack, no group", ARRAY_INDEX, yard(3, "", "", ""), x -> x.put(3, 0));
        refused("no group, a full stack", ARGUMENT, yard(2, "ab", ""), x -> x.put(0, 21));
        refused("no group, six boxes", ARGUMENT, yard(4, "abcd", "ef"), x -> x.put(1, 0));
        refused("a full stack, six boxes", STATE, yard(3, "abc", "def"), x -> x.put(0, 1));
    }

    private static void soManyStacks() {
        says("So many stacks (2 .. 4, else 3)");
        int[] due = {3, 3, 2, 3, 4, 3, 3};
        for (int stacks = 0; stacks < due.length; stacks++) {
            due("of " + stacks, new ReshuffleSearch(stacks, 4).count(1), due[stacks]);
            due("tiers beside " + stacks, new ReshuffleSearch(stacks, 4).count(2), 4);
        }
        for (int w : WILD) {
            due("of " + w, new ReshuffleSearch(w, 2).count(1), 3);
            due("tiers beside " + w, new ReshuffleSearch(w, 2).count(2), 2);
        }
        ReshuffleSearch x = new ReshuffleSearch(5, 2);
        due("put onto stack 2 of else 3", x.put(2, 1), 1);
        refused("put onto stack 3 of else 3", ARRAY_INDEX, x, y -> y.put(3, 1));
    }

    private static void soManyTiers() {
        says("of so many tiers (2 .. 4, else 3)");
        int[] due = {3, 3, 2, 3, 4, 3, 3};
        for (int tiers = 0; tiers < due.length; tiers++) {
            due("of " + tiers, new ReshuffleSearch(2, tiers).count(2), due[tiers]);
            due("stacks beside " + tiers, new ReshuffleSearch(2, tiers).count(1), 2);
        }
        for (int w : WILD) {
            due("of " + w, new ReshuffleSearch(4, w).count(2), 3);
            due("stacks beside " + w, new ReshuffleSearch(4, w).count(1), 4);
        }
        ReshuffleSearch x = new ReshuffleSearch(2, 1);
        due("put", x.put(0, 1) + x.put(0, 1) + x.put(0, 1), 6);
        refused("put onto tier 3 of else 3", STATE, x, y -> y.put(0, 1));
    }

    private static void newObjectIsEmpty() {
        says("A new object");
        due("all of it", everything(new ReshuffleSearch(2, 3)), ".../.../ 0 boxes, way none -1 -1");
        due("all of another one", everything(new ReshuffleSearch(9, 9)), ".../.../.../ 0 boxes, way none -1 -1");
        ReshuffleSearch one = new ReshuffleSearch(2, 2);
        ReshuffleSearch other = new ReshuffleSearch(2, 2);
        one.put(0, 1);
        one.solve(0, 30);
        due("what one does the other does not", everything(other), "../../ 0 boxes, way none -1 -1");
    }

    private static void howManyStandThere() {
        says("A box of a group comes onto a stack: how many stand there then");
        ReshuffleSearch x = new ReshuffleSearch(2, 4);
        due("the first one", x.put(1, 3), 1);
        due("the first one of the other stack", x.put(0, 1), 1);
        due("the second one", x.put(1, 2), 2);
        due("the third one", x.put(1, 2), 3);
        due("the fourth one", x.put(1, 20), 4);
        due("onto the top", shown(x), "a.../cbbt/");
        x.off(1);
        due("behind off", x.put(1, 7), 4);
        due("onto the top", shown(x), "a.../cbbg/");
    }

    private static void putNoSuchStack() {
        says("put: ArrayIndexOutOfBoundsException if there is no such stack");
        for (int stacks = 2; stacks <= 4; stacks++) {
            int beside = stacks;
            due("onto the last one", new ReshuffleSearch(stacks, 2).put(stacks - 1, 1), 1);
            refused("put(" + stacks + ", 1)", ARRAY_INDEX, new ReshuffleSearch(stacks, 2), x -> x.put(beside, 1));
        }
        for (int w : WILD) {
            refused("put(" + w + ", 1)", ARRAY_INDEX, yard(4, "a", "b", "c", "d"), x -> x.put(w, 1));
        }
    }

    private static void putNoSuchGroup() {
        says("IllegalArgumentException if there is no such group");
        due("the least one", yard(2, "", "").put(0, 1), 1);
        due("the greatest one", yard(2, "", "").put(0, 20), 1);
        refused("put(0, 0)", ARGUMENT, yard(2, "", ""), x -> x.put(0, 0));
        refused("put(0, 21)", ARGUMENT, yard(2, "", ""), x -> x.put(0, 21));
        for (int w : WILD) {
            refused("put(0, " + w + ")", ARGUMENT, yard(2, "", ""), x -> x.put(0, w));
        }
    }

    private static void putOntoAFullStack() {
        says("IllegalStateException if the stack is full");
        String[] full = {"ab", "abc", "abcd"};
        for (int tiers = 2; tiers <= 4; tiers++) {
            String stack = full[tiers - 2];
            refused("put onto " + stack, STATE, yard(tiers, stack, ""), x -> x.put(0, 1));
            due("the last place", yard(tiers, stack.substring(1), "").put(0, 1), tiers);
            due("the other stack", yard(tiers, stack, "").put(1, 1), 1);
            ReshuffleSearch x = yard(tiers, stack, "");
            x.off(0);
            due("its place again", x.put(0, 1), tiers);
        }
    }

    private static void putASeventhBox() {
        says("IllegalStateException if .. there are 6 boxes");
        due("the sixth one", yard(4, "abc", "de").put(0, 1), 4);
        refused("a seventh one", STATE, yard(4, "abc", "def"), x -> x.put(0, 1));
        refused("a seventh one onto an empty stack", STATE, yard(3, "abc", "def", "", ""), x -> x.put(3, 1));
        ReshuffleSearch x = yard(4, "abc", "def");
        x.off(0);
        due("a sixth one again, onto the other stack", x.put(1, 1), 4);
        ReshuffleSearch left = solved(0, yard(4, "cba", "fed"));
        left.follow();
        for (int box = 0; box < 6; box++) {
            due("six more when six left", left.put(box % 2, 9), box / 2 + 1);
        }
        refused("a seventh one", STATE, left, y -> y.put(0, 1));
    }

    private static void offTakesTheTop() {
        says("The top box of a stack is taken off: its group");
        ReshuffleSearch x = yard(4, "atbc", "d");
        due("the fourth one", x.off(0), 3);
        due("its place", shown(x), "atb./d.../");
        due("the third one", x.off(0), 2);
        due("the second one", x.off(0), 20);
        due("the last one", x.off(0), 1);
        due("the other stack", shown(x), "..../d.../");
        due("boxes", x.count(0), 1);
    }

    private static void offNoSuchStack() {
        says("off: ArrayIndexOutOfBoundsException if there is no such stack");
        for (int stacks = 2; stacks <= 4; stacks++) {
            int beside = stacks;
            ReshuffleSearch x = new ReshuffleSearch(stacks, 2);
            x.put(stacks - 1, 5);
            refused("off(" + stacks + ")", ARRAY_INDEX, x, y -> y.off(beside));
            due("off the last one", x.off(stacks - 1), 5);
        }
        for (int w : WILD) {
            refused("off(" + w + ")", ARRAY_INDEX, yard(4, "a", "b", "c", "d"), x -> x.off(w));
        }
    }

    private static void offAnEmptyStack() {
        says("NoSuchElementException if it is empty");
        refused("off a new one", NO_ELEMENT, new ReshuffleSearch(2, 2), x -> x.off(0));
        refused("off an empty one beside a full one", NO_ELEMENT, yard(2, "ab", ""), x -> x.off(1));
        refused("off an empty one ahead of a full one", NO_ELEMENT, yard(2, "", "ab"), x -> x.off(0));
        ReshuffleSearch x = yard(2, "a", "b");
        x.off(0);
        refused("off one that became empty", NO_ELEMENT, x, y -> y.off(0));
        ReshuffleSearch left = solved(0, yard(2, "a", "b"));
        left.follow();
        refused("off one that all left", NO_ELEMENT, left, y -> y.off(1));
    }

    private static void solveCounts() {
        says("How many moves the least ways have (0: RESTRICTED, 1: UNRESTRICTED, 2: to MARSHAL)");
        due("restricted", yard(4, "d", "cee", "d").solve(0, 30), 4);
        due("unrestricted", yard(4, "d", "cee", "d").solve(1, 30), 3);
        due("to marshal", yard(4, "d", "cee", "d").solve(2, 30), 3);
        due("all leave", yard(2, "ba", "").solve(0, 30), 0);
        for (int manner = 0; manner <= 2; manner++) {
            due("an empty yard", new ReshuffleSearch(3, 3).solve(manner, 30), 0);
        }
        ReshuffleSearch x = yard(3, "acb", "d", "");
        x.solve(1, 30);
        due("the stacks stay", shown(x), "acb/d../.../");
    }

    private static void solveKeeps() {
        says("kept with the first such one");
        ReshuffleSearch x = yard(3, "acb", "d", "");
        x.solve(0, 30);
        due("a way", everything(x), "acb/d../.../ 4 boxes, way 01b 02c 7 0");
        x.put(2, 20);
        due("kept behind put", way(x), "01b 02c");
        x.off(1);
        due("kept behind off", way(x), "01b 02c");
        x.solve(2, 30);
        due("another way takes its place", everything(x), "acb/.../t../ 4 boxes, way 01b 02c 7 2");
        x.off(0);
        x.off(0);
        x.solve(1, 0);
        due("so does one without moves", everything(x), "a../.../t../ 2 boxes, way  0 1");
    }

    private static void solveMoreThanSoMany() {
        says("-1 if they have more than so many (then .. no way is kept)");
        for (int manner = 0; manner <= 2; manner++) {
            ReshuffleSearch x = yard(3, "acb", "d", "");
            due("just so many", x.solve(manner, 2), 2);
            due("is kept", x.count(3), 2);
            due("one too few", x.solve(manner, 1), -1);
            due("none is kept", everything(x), "acb/d../.../ 4 boxes, way none -1 -1");
            x.solve(manner, 2);
            due("none at all", x.solve(manner, 0), -1);
            due("none is kept", everything(x), "acb/d../.../ 4 boxes, way none -1 -1");
        }
        ReshuffleSearch far = yard(4, "ac", "bade");
        for (int most = 0; most <= 30; most++) {
            due("most " + most, far.solve(0, most), most < 11 ? -1 : 11);
            due("moves with most " + most, far.count(3), most < 11 ? -1 : 11);
        }
    }

    private static void solveNoWay() {
        says("(.. and with -2, no way is kept); -2 if there is no way of 30 moves or less");
        for (int manner = 0; manner <= 2; manner++) {
            ReshuffleSearch x = solved(manner, yard(2, "a", "cd"));
            x.put(0, 2);
            x.solve(manner == 2 ? 0 : 2, 30);
            due("full", x.solve(manner, 30), -2);
            due("none is kept", everything(x), "ab/cd/ 4 boxes, way none -1 -1");
            for (int most = 0; most <= 30; most++) {
                due("-2, not -1, with most " + most, x.solve(manner, most), -2);
            }
        }
        ReshuffleSearch kept = yard(2, "b", "cd", "");
        due("a way", kept.solve(2, 30), 1);
        kept.put(2, 2);
        kept.put(2, 3);
        kept.put(0, 3);
        due("none any more", kept.solve(2, 30), -2);
        due("none is kept", way(kept), "none");
        ReshuffleSearch round = yard(3, "acb", "");
        due("moves without end, but no way", round.solve(2, 30), -2);
        due("no way is kept", round.count(3), -1);
        due("though there is one for boxes that leave", round.solve(1, 30), 3);
    }

    private static void solveNoSuchManner() {
        says("IllegalArgumentException if there is no such manner");
        refused("solve(3, 30)", ARGUMENT, withAWay(), x -> x.solve(3, 30));
        refused("solve(-1, 0)", ARGUMENT, withAWay(), x -> x.solve(-1, 0));
        refused("solve(3, 31)", ARGUMENT, withAWay(), x -> x.solve(3, 31));
        refused("solve(3, 0) of an empty yard", ARGUMENT, yard(2, "", ""), x -> x.solve(3, 0));
        for (int w : WILD) {
            refused("solve(" + w + ", 30)", ARGUMENT, withAWay(), x -> x.solve(w, 30));
        }
    }

    private static void solveMost() {
        says("IllegalArgumentException if .. most is not 0 .. 30");
        due("solve(0, 0)", yard(2, "ab", "").solve(0, 0), -1);
        due("solve(0, 30)", yard(2, "ab", "").solve(0, 30), 1);
        for (int manner = 0; manner <= 2; manner++) {
            int m = manner;
            refused("solve(" + m + ", -1)", ARGUMENT, withAWay(), x -> x.solve(m, -1));
            refused("solve(" + m + ", 31)", ARGUMENT, withAWay(), x -> x.solve(m, 31));
            refused("solve(" + m + ", 31) without a way", ARGUMENT, yard(2, "ab", "cd"), x -> x.solve(m, 31));
        }
        for (int w : WILD) {
            refused("solve(1, " + w + ")", ARGUMENT, withAWay(), x -> x.solve(1, w));
        }
    }

    private static void moveSides() {
        says("Of move i of the way that is kept: side 0: from, 1: to, 2: the group of the box");
        ReshuffleSearch x = solved(1, yard(2, "r", "at", "s"));
        due("from of the first move", x.move(0, 0), 0);
        due("to of the first move", x.move(0, 1), 2);
        due("group of the first move", x.move(0, 2), 18);
        due("from of the last move", x.move(1, 0), 1);
        due("to of the last move", x.move(1, 1), 0);
        due("group of the last move", x.move(1, 2), 20);
        ReshuffleSearch far = solved(0, yard(4, "ac", "bade"));
        due("group of move 10", far.move(10, 2), 5);
        far.off(0);
        far.put(0, 12);
        far.blocked();
        far.rule();
        due("groups of the stacks as they were", way(far), way(solved(0, yard(4, "ac", "bade"))));
    }

    private static void moveNoneSuch() {
        says("IndexOutOfBoundsException if there is none such");
        refused("without a way", INDEX, yard(2, "ab", ""), x -> x.move(0, 0));
        refused("of a way without moves", INDEX, solved(0, yard(2, "ba", "")), x -> x.move(0, 0));
        ReshuffleSearch tooFew = withAWay();
        tooFew.solve(1, 0);
        refused("behind -1", INDEX, tooFew, x -> x.move(0, 0));
        ReshuffleSearch no = solved(0, yard(2, "ab", "c"));
        no.put(1, 4);
        no.solve(0, 30);
        refused("behind -2", INDEX, no, x -> x.move(0, 0));
        int moves = withAWay().count(3);
        for (int side = 0; side <= 2; side++) {
            int a = side;
            refused("the move behind the last, side " + a, INDEX, withAWay(), x -> x.move(moves, a));
            refused("move -1, side " + a, INDEX, withAWay(), x -> x.move(-1, a));
        }
        refused("side -1", INDEX, withAWay(), x -> x.move(0, -1));
        refused("side 3", INDEX, withAWay(), x -> x.move(0, 3));
        refused("side 3 of the last move", INDEX, withAWay(), x -> x.move(moves - 1, 3));
        ReshuffleSearch shorter = solved(0, yard(4, "abc", ""));
        shorter.off(0);
        shorter.solve(0, 30);
        refused("a move of a longer way from before", INDEX, shorter, x -> x.move(1, 0));
        refused("move 11 of 11", INDEX, solved(0, yard(4, "ac", "bade")), x -> x.move(11, 0));
        refused("move 29", INDEX, withAWay(), x -> x.move(29, 0));
        refused("move 30", INDEX, withAWay(), x -> x.move(30, 0));
        for (int w : WILD) {
            refused("move " + w, INDEX, withAWay(), x -> x.move(w, 0));
            refused("side " + w, INDEX, withAWay(), x -> x.move(0, w));
        }
    }

    private static void followGoesThrough() {
        says("The way that is kept is gone through on the stacks as they are: how many boxes left by it");
        for (int manner = 0; manner <= 1; manner++) {
            ReshuffleSearch x = solved(manner, yard(4, "d", "cee", "d"));
            String way = way(x);
            due("follow", x.follow(), 5);
            due("the stacks", shown(x), "..../..../..../");
            due("boxes", x.count(0), 0);
            due("the way is kept on", way(x), way);
        }
        ReshuffleSearch free = solved(0, yard(3, "fed", "cba"));
        due("six that needed no move", free.follow(), 6);
        ReshuffleSearch empty = solved(1, new ReshuffleSearch(2, 2));
        due("none of an empty yard", empty.follow(), 0);
        due("and none again, as the stacks are as they were", empty.follow(), 0);
    }

    private static void followOfAWayToMarshal() {
        says("(0 of a way to marshal)");
        ReshuffleSearch x = solved(2, yard(3, "atb", "d", ""));
        due("follow", x.follow(), 0);
        due("the stacks", shown(x), "a../db./t../");
        due("boxes", x.count(0), 4);
        due("none is blocked", x.blocked(), 0);
        ReshuffleSearch order = solved(2, yard(3, "cba", "b"));
        due("of one without moves", order.follow(), 0);
        due("the stacks stay", shown(order), "cba/b../");
        due("and again, as the stacks are as they were", order.follow(), 0);
    }

    private static void followWithoutAWay() {
        says("IllegalStateException if there is none");
        refused("of a new object", STATE, new ReshuffleSearch(2, 2), x -> x.follow());
        refused("ahead of solve", STATE, yard(2, "ab", ""), x -> x.follow());
        ReshuffleSearch tooFew = withAWay();
        tooFew.solve(1, 0);
        refused("behind -1", STATE, tooFew, x -> x.follow());
        refused("behind -2", STATE, solved(0, yard(2, "ab", "cd")), x -> x.follow());
        ReshuffleSearch asked = yard(2, "ab", "");
        answer(asked, x -> x.solve(0, 31));
        refused("behind a solve that threw", STATE, asked, x -> x.follow());
    }

    private static void followOnOtherStacks() {
        says("IllegalStateException if .. the stacks are not as they were when it was found");
        ReshuffleSearch more = solved(0, yard(3, "acb", "d", ""));
        more.put(2, 20);
        refused("a box more", STATE, more, x -> x.follow());
        more.off(2);
        due("as they were again", more.follow(), 4);
        refused("behind follow", STATE, more, x -> x.follow());
        ReshuffleSearch less = solved(0, yard(3, "acb", "d", ""));
        less.off(1);
        refused("a box less", STATE, less, x -> x.follow());
        less.put(1, 5);
        refused("another group, no matter for the way", STATE, less, x -> x.follow());
        less.off(1);
        less.put(2, 4);
        refused("a box elsewhere", STATE, less, x -> x.follow());
        ReshuffleSearch turned = solved(2, yard(2, "ba", ""));
        turned.off(0);
        turned.off(0);
        turned.put(0, 1);
        turned.put(0, 2);
        refused("the other way round", STATE, turned, x -> x.follow());
        ReshuffleSearch none = solved(0, yard(2, "a", ""));
        none.off(0);
        refused("none any more, of a way without moves", STATE, none, x -> x.follow());
        none.put(0, 1);
        due("as they were again", none.follow(), 1);
        none.put(0, 1);
        due("as they were once more, behind follow", none.follow(), 1);
        ReshuffleSearch late = solved(2, yard(3, "ab", "", ""));
        late.follow();
        refused("behind a way to marshal", STATE, late, x -> x.follow());
        ReshuffleSearch last = solved(1, yard(4, "", "", "", "abcd"));
        last.off(3);
        last.put(3, 5);
        refused("another box in the last place of all", STATE, last, x -> x.follow());
    }

    private static void howManyAreBlocked() {
        says("How many boxes are blocked");
        due("of none", new ReshuffleSearch(4, 4).blocked(), 0);
        due("of one", yard(2, "t", "").blocked(), 0);
        due("of all but the lowest", yard(4, "abcd", "").blocked(), 3);
        due("of the last stack", yard(4, "", "", "", "abcd").blocked(), 3);
        ReshuffleSearch x = withAWay();
        String before = everything(x);
        due("boxes that could leave count too", yard(4, "ab", "ba").blocked(), 1);
        due("blocked", x.blocked(), 2);
        due("nothing changes", everything(x), before);
    }

    private static void howManyMovesTheRuleMakes() {
        says("How many moves THE RULE makes; NONE if it has no answer");
        due("of none", new ReshuffleSearch(4, 4).rule(), 0);
        due("two moves", yard(3, "acb", "d", "").rule(), 2);
        due("more than the least ways", yard(3, "ab", "ac").rule(), 4);
        due("the least ways", yard(3, "ab", "ac").solve(0, 30), 3);
        due("no answer", yard(2, "ab", "cd").rule(), ReshuffleSearch.NONE);
        ReshuffleSearch x = withAWay();
        String before = everything(x);
        x.rule();
        due("nothing changes", everything(x), before);
        due("and the way can be followed", x.follow(), 6);
        ReshuffleSearch no = solved(2, yard(2, "ba", "dc"));
        due("no answer is needed", no.rule(), 0);
        due("the stacks stay", shown(no), "ba/dc/");
    }

    private static void travelNoSuchStack() {
        says("travel: ArrayIndexOutOfBoundsException if there is no such stack");
        for (int stacks = 2; stacks <= 4; stacks++) {
            int beside = stacks;
            due("the last one", new ReshuffleSearch(stacks, 2).travel(0, stacks - 1), stacks + 1);
            refused("from " + stacks, ARRAY_INDEX, new ReshuffleSearch(stacks, 2), x -> x.travel(beside, 0));
            refused("to " + stacks, ARRAY_INDEX, new ReshuffleSearch(stacks, 2), x -> x.travel(0, beside));
        }
        for (int w : WILD) {
            refused("from " + w, ARRAY_INDEX, withAWay(), x -> x.travel(w, 0));
            refused("to " + w, ARRAY_INDEX, withAWay(), x -> x.travel(0, w));
            refused("from and to " + w, ARRAY_INDEX, withAWay(), x -> x.travel(w, w));
        }
    }

    private static void atEmptyPlace() {
        says("The group of a box by its tier, 0 for an empty place");
        ReshuffleSearch x = yard(4, "abt", "", "c");
        due("the lowest", x.at(0, 0), 1);
        due("the top", x.at(0, 2), 20);
        due("right above the top", x.at(0, 3), 0);
        due("an empty stack", x.at(1, 0), 0);
        due("the highest place of the last stack", x.at(2, 3), 0);
        due("all", shown(x), "abt./..../c.../");
        x.off(0);
        due("taken off", x.at(0, 2), 0);
        ReshuffleSearch left = solved(0, x);
        left.follow();
        due("left", shown(left), "..../..../..../");
    }

    private static void atNoSuchPlace() {
        says("at: ArrayIndexOutOfBoundsException if there is no such stack or tier");
        for (int size = 2; size <= 4; size++) {
            int beside = size;
            due("the last place", new ReshuffleSearch(size, size).at(size - 1, size - 1), 0);
            refused("stack " + size, ARRAY_INDEX, new ReshuffleSearch(size, 4), x -> x.at(beside, 0));
            refused("tier " + size, ARRAY_INDEX, new ReshuffleSearch(4, size), x -> x.at(0, beside));
            refused("both " + size, ARRAY_INDEX, new ReshuffleSearch(size, size), x -> x.at(beside, beside));
        }
        refused("tier -1 of stack 1", ARRAY_INDEX, yard(2, "ab", "cd"), x -> x.at(1, -1));
        refused("stack -1 with a tier that makes up for it", ARRAY_INDEX, yard(2, "ab", "cd"), x -> x.at(-1, 2));
        for (int w : WILD) {
            refused("stack " + w, ARRAY_INDEX, yard(4, "a", "b", "c", "d"), x -> x.at(w, 0));
            refused("tier " + w, ARRAY_INDEX, yard(4, "a", "b", "c", "d"), x -> x.at(0, w));
        }
    }

    private static void countOfTheYard() {
        says("what 0: boxes, 1: stacks, 2: tiers");
        ReshuffleSearch x = new ReshuffleSearch(2, 4);
        due("no boxes", x.count(0), 0);
        for (int box = 1; box <= 6; box++) {
            x.put(box % 2, box);
            due("boxes", x.count(0), box);
        }
        answer(x, y -> y.put(0, 1));
        due("boxes behind a seventh", x.count(0), 6);
        x.off(0);
        due("boxes behind off", x.count(0), 5);
        due("stacks", x.count(1), 2);
        due("tiers", x.count(2), 4);
    }

    private static void countOfTheWay() {
        says("3: moves of the way that is kept .., 4: TRAVEL of all of them, 5: its manner");
        ReshuffleSearch x = yard(2, "b", "ac", "b");
        int[] moves = {2, 2, 2};
        String[] ways = {"10c 01c", "02b 10c", "02b 10c"};
        int[] travel = {6, 7, 7};
        for (int manner = 0; manner <= 2; manner++) {
            due("solve", x.solve(manner, 30), moves[manner]);
            due("the way", way(x), ways[manner]);
            due("moves", x.count(3), moves[manner]);
            due("travel", x.count(4), travel[manner]);
            due("manner", x.count(5), manner);
        }
        x.off(1);
        due("moves behind off", x.count(3), 2);
        due("travel behind off", x.count(4), 7);
        due("manner behind off", x.count(5), 2);
        for (int manner = 0; manner <= 2; manner++) {
            ReshuffleSearch still = solved(manner, yard(2, "ba", ""));
            due("no moves", still.count(3), 0);
            due("no travel", still.count(4), 0);
            due("its manner", still.count(5), manner);
            still.follow();
            due("moves behind follow", still.count(3), 0);
            due("travel behind follow", still.count(4), 0);
            due("manner behind follow", still.count(5), manner);
        }
        due("travel over the widest yard", solved(2, yard(2, "ac", "bb", "bb", "")).count(4), 5);
    }

    private static void countWithoutAWay() {
        says("(NONE without) .. NONE for .. 4 and 5 without one");
        ReshuffleSearch tooFew = withAWay();
        tooFew.solve(1, 0);
        ReshuffleSearch[] without = {new ReshuffleSearch(2, 2), yard(2, "ab", ""), tooFew,
            solved(0, yard(2, "ab", "cd"))};
        for (ReshuffleSearch x : without) {
            for (int what = 3; what <= 5; what++) {
                due("count(" + what + ")", x.count(what), -1);
            }
        }
    }

    private static void countOfAnotherWhat() {
        says("NONE for another what");
        due("count(6)", withAWay().count(6), -1);
        due("count(-1)", withAWay().count(-1), -1);
        for (int what = 6; what <= 40; what++) {
            due("count(" + what + ")", withAWay().count(what), -1);
        }
        for (int w : WILD) {
            due("count(" + w + ")", withAWay().count(w), -1);
        }
    }
}
