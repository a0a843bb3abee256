/** At least one test for each promise of the document: ordinary inputs, edges and wrong inputs. */
public final class PromiseTests {
    private static final int NONE = -1, BAD = -2, STATE = -3, FULL = -4;
    private static final int NOTHING = -11, OUTSIDE = -12, OTHER_SORT = -13, BELOW_ZERO = -14;
    private static final long NO = -4611686018427387904L;
    private static final int LOWEST = Integer.MIN_VALUE, HIGHEST = Integer.MAX_VALUE;

    private static int wrong = 0;
    private static int promise = 0;

    private static void due(String call, long got, long want) {
        if (got != want) {
            wrong++;
            System.out.println("promise " + promise + ": " + call + " answered " + got
                    + ", due is " + want);
        }
    }

    private static void dueFraction(String call, long above, long below, long wantAbove,
            long wantBelow) {
        due(call + " above", above, wantAbove);
        due(call + " below", below, wantBelow);
    }

    private static int code(int base, int... digits) {
        int code = 0;
        for (int i = digits.length - 1; i >= 0; i--) {
            code = code * base + digits[i];
        }
        return code;
    }

    /** A desk with one TOLD venture whose worths are those of sets 1, 2, .. */
    private static JointWorks told(int n, int... worths) {
        JointWorks desk = new JointWorks();
        desk.venture(n);
        for (int i = 0; i < worths.length; i++) {
            desk.set(0, i + 1, worths[i]);
        }
        return desk;
    }

    private static JointWorks full() {
        JointWorks desk = new JointWorks();
        for (int i = 0; i < 10; i++) {
            desk.venture(2);
        }
        return desk;
    }

    private static void dueWorths(JointWorks desk, int venture, int... worths) {
        for (int i = 0; i < worths.length; i++) {
            due("worth(" + venture + ", " + (i + 1) + ")", desk.worth(venture, i + 1), worths[i]);
        }
        due("worth beyond ALL", desk.worth(venture, worths.length + 1), NO);
    }

    private static void newObject() {
        JointWorks x = new JointWorks();
        due("count(0)", x.count(0), 0);
        due("count(1)", x.count(1), 0);
        due("count(2)", x.count(2), 0);
        due("row(0)", x.row(0), NO);
        due("trace(0)", x.trace(0), NONE);
        due("worth(0, 0)", x.worth(0, 0), NO);
        due("cell(0, 0, 0)", x.cell(0, 0, 0), NOTHING);
        due("cell(3, 0, 0)", x.cell(3, 0, 0), NOTHING);
        due("NONE", JointWorks.NONE, NONE);
        due("BAD", JointWorks.BAD, BAD);
        due("STATE", JointWorks.STATE, STATE);
        due("FULL", JointWorks.FULL, FULL);
        due("NO", JointWorks.NO, NO);
    }

    private static void venture() {
        JointWorks x = new JointWorks();
        due("venture(0)", x.venture(0), BAD);
        due("venture(5)", x.venture(5), BAD);
        due("venture(-1)", x.venture(-1), BAD);
        for (int i = 0; i < 10; i++) {
            due("venture", x.venture(i % 4 + 1), i);
            due("n", x.told(i, 1), i % 4 + 1);
            due("kind", x.told(i, 0), 0);
        }
        due("venture(4) eleventh", x.venture(4), FULL);
        due("venture(5) eleventh", x.venture(5), BAD);
        due("count(0)", x.count(0), 10);
        dueWorths(x, 3, new int[15]);
    }

    private static void set() {
        JointWorks x = told(2, 5, -100, 100);
        dueWorths(x, 0, 5, -100, 100);
        due("set(0, 0, 1)", x.set(0, 0, 1), BAD);
        due("set(0, 4, 1)", x.set(0, 4, 1), BAD);
        due("set(0, -1, 1)", x.set(0, -1, 1), BAD);
        due("set(0, 1, 101)", x.set(0, 1, 101), BAD);
        due("set(0, 1, -101)", x.set(0, 1, -101), BAD);
        due("set(1, 1, 1)", x.set(1, 1, 1), BAD);
        due("set(-1, 1, 1)", x.set(-1, 1, 1), BAD);
        dueWorths(x, 0, 5, -100, 100);
        x.gloves(2, 1);
        x.other(0);
        due("set of GLOVES", x.set(1, 1, 1), STATE);
        due("set of JOINED", x.set(2, 1, 1), STATE);
        due("set of GLOVES, no such set", x.set(1, 4, 1), BAD);
        due("set of GLOVES, no such worth", x.set(1, 1, 101), BAD);
        due("set(0, 3, 7)", x.set(0, 3, 7), 1);
        due("JOINED stands for itself", x.worth(2, 3), 100);
    }

    private static void votes() {
        JointWorks x = new JointWorks();
        due("votes", x.votes(3, code(21, 3, 2, 1), 4), 0);
        dueWorths(x, 0, 0, 0, 1, 0, 1, 0, 1);
        due("kind", x.told(0, 0), 1);
        due("weights -1", x.votes(3, -1, 4), BAD);
        due("weights 21^3", x.votes(3, 9261, 4), BAD);
        due("weights 21^1", x.votes(1, 21, 4), BAD);
        due("weights highest", x.votes(4, HIGHEST, 4), BAD);
        due("quota 0", x.votes(3, 5, 0), BAD);
        due("quota 81", x.votes(3, 5, 81), BAD);
        due("n 0", x.votes(0, 0, 1), BAD);
        due("n 5", x.votes(5, 0, 1), BAD);
        due("all greatest", x.votes(4, 194480, 80), 1);
        due("worth of all", x.worth(1, 15), 1);
        due("worth of three", x.worth(1, 14), 0);
        due("one, weight 20, quota 20", x.votes(1, 20, 20), 2);
        dueWorths(x, 2, 1);
        due("no weights", x.votes(2, 0, 1), 3);
        dueWorths(x, 3, 0, 0, 0);
        due("votes where full", full().votes(2, 1, 1), FULL);
        due("bad votes where full", full().votes(2, 1, 0), BAD);
    }

    private static void runway() {
        JointWorks x = new JointWorks();
        due("runway", x.runway(3, code(51, 2, 0, 50)), 0);
        dueWorths(x, 0, -2, 0, -2, -50, -50, -50, -50);
        due("kind", x.told(0, 0), 2);
        due("needs -1", x.runway(3, -1), BAD);
        due("needs 51^3", x.runway(3, 132651), BAD);
        due("needs 51^4", x.runway(4, 6765201), BAD);
        due("needs 51^4 - 1", x.runway(4, 6765200), 1);
        due("worth of one", x.worth(1, 8), -50);
        due("n 0", x.runway(0, 0), BAD);
        due("n 5", x.runway(5, 0), BAD);
        due("runway where full", full().runway(2, 1), FULL);
        due("bad runway where full", full().runway(2, -1), BAD);
    }

    private static void gloves() {
        JointWorks x = new JointWorks();
        due("gloves", x.gloves(4, 3), 0);
        dueWorths(x, 0, 0, 0, 0, 0, 1, 1, 1, 0, 1, 1, 1, 0, 1, 1, 2);
        due("kind", x.told(0, 0), 3);
        due("none left", x.gloves(2, 0), 1);
        dueWorths(x, 1, 0, 0, 0);
        due("all left", x.gloves(2, 3), 2);
        dueWorths(x, 2, 0, 0, 0);
        due("left 4 of 2", x.gloves(2, 4), BAD);
        due("left -1", x.gloves(2, -1), BAD);
        due("n 0", x.gloves(0, 0), BAD);
        due("n 5", x.gloves(5, 0), BAD);
        due("n 32", x.gloves(32, 0), BAD);
        due("gloves where full", full().gloves(2, 1), FULL);
        due("bad gloves where full", full().gloves(2, 4), BAD);
    }

    private static void sum() {
        JointWorks x = told(2, 5, -7, 100);
        x.gloves(2, 1);
        due("sum", x.sum(0, 1, -2, 3), 2);
        dueWorths(x, 2, -10, 14, -197);
        due("kind", x.told(2, 0), 4);
        x.set(0, 1, 6);
        due("stands for itself", x.worth(2, 1), -10);
        due("no first", x.sum(3, 1, 1, 1), BAD);
        due("no second", x.sum(0, 3, 1, 1), BAD);
        due("no second, below 0", x.sum(0, -1, 1, 1), BAD);
        due("p 4", x.sum(0, 1, 4, 1), BAD);
        due("p -4", x.sum(0, 1, -4, 1), BAD);
        due("q 4", x.sum(0, 1, 1, 4), BAD);
        due("q -4", x.sum(0, 1, 1, -4), BAD);
        x.venture(3);
        due("unlike n", x.sum(0, 3, 1, 1), STATE);
        due("unlike n, p 4", x.sum(0, 3, 4, 1), BAD);
        due("edge", x.sum(0, 0, 3, 2), 4);
        due("worth 500", x.worth(4, 3), 500);
        due("worth 1000", x.sum(4, 4, 1, 1), 5);
        due("worth 1000 is", x.worth(5, 3), 1000);
        due("worth 1100", x.sum(5, 0, 1, 1), FULL);
        due("worth -1000", x.sum(5, 5, 0, -1), 6);
        due("worth -1100", x.sum(6, 0, 1, -1), FULL);
        due("worth of an unlike n and beyond", x.sum(5, 3, 3, 3), STATE);
        due("count(0)", x.count(0), 7);
        due("sum where full", full().sum(0, 1, 1, 1), FULL);
        JointWorks y = full();
        y.close();
        y.venture(3);
        due("unlike n where full", y.sum(0, 9, 1, 1), STATE);
        due("first twice", told(1, 9).sum(0, 0, 0, 0), 1);
        sumEdges();
    }

    private static void sumEdges() {
        JointWorks x = told(2, 100, 1, 0);
        due("600", x.sum(0, 0, 3, 3), 1);
        due("1000", x.sum(1, 0, 2, -2), 2);
        due("1000 is", x.worth(2, 1), 1000);
        x.set(0, 1, 1);
        due("1001", x.sum(2, 0, 1, 1), FULL);
        due("-1001", x.sum(2, 0, -1, -1), FULL);
        due("1000 - 1", x.sum(2, 0, 1, -1), 3);
        due("-1000", x.sum(2, 2, 0, -1), 4);
        due("-1000 is", x.worth(4, 1), -1000);
        due("-3 times", x.sum(0, 0, -3, -3), 5);
        due("-3 times is", x.worth(5, 1), -6);
    }

    private static void drop() {
        JointWorks x = told(3, 1, 2, 3, 4, 5, 6, 7);
        due("drop(0, 0)", x.drop(0, 0), 1);
        dueWorths(x, 1, 2, 4, 6);
        due("drop(0, 1)", x.drop(0, 1), 2);
        dueWorths(x, 2, 1, 4, 5);
        due("drop(0, 2)", x.drop(0, 2), 3);
        dueWorths(x, 3, 1, 2, 3);
        due("kind", x.told(3, 0), 4);
        due("drop(0, 3)", x.drop(0, 3), BAD);
        due("drop(0, -1)", x.drop(0, -1), BAD);
        due("drop(4, 0)", x.drop(4, 0), BAD);
        due("drop to one", x.drop(3, 0), 4);
        dueWorths(x, 4, 2);
        due("drop of one", x.drop(4, 0), STATE);
        due("drop of one, no such", x.drop(4, 1), BAD);
        due("drop where full", full().drop(0, 0), FULL);
        due("bad drop where full", full().drop(0, 2), BAD);
        JointWorks y = full();
        y.close();
        y.venture(1);
        due("drop of one where full", y.drop(9, 0), STATE);
    }

    private static void join() {
        JointWorks x = told(3, 1, 2, 3, 4, 5, 6, 7);
        due("join(0, 0, 1)", x.join(0, 0, 1), 1);
        dueWorths(x, 1, 3, 4, 7);
        due("join(0, 0, 2)", x.join(0, 0, 2), 2);
        dueWorths(x, 2, 5, 2, 7);
        due("join(0, 1, 2)", x.join(0, 1, 2), 3);
        dueWorths(x, 3, 1, 6, 7);
        due("kind", x.told(3, 0), 4);
        due("n", x.told(3, 1), 2);
        due("a = b", x.join(0, 1, 1), BAD);
        due("a above b", x.join(0, 2, 1), BAD);
        due("b 3", x.join(0, 2, 3), BAD);
        due("a -1", x.join(0, -1, 1), BAD);
        due("no such", x.join(4, 0, 1), BAD);
        due("join where full", full().join(0, 0, 1), FULL);
        due("bad join where full", full().join(0, 1, 0), BAD);
        JointWorks y = told(4, 1, 2, 3, 4, 5, 6, 7, 8, 9, 10, 11, 12, 13, 14, 15);
        due("join(0, 1, 2) of four", y.join(0, 1, 2), 1);
        dueWorths(y, 1, 1, 6, 7, 8, 9, 14, 15);
    }

    private static void other() {
        JointWorks x = told(3, 1, 2, 3, 4, 5, 6, 70);
        due("other(0)", x.other(0), 1);
        dueWorths(x, 1, 64, 65, 66, 67, 68, 69, 70);
        due("kind", x.told(1, 0), 4);
        due("other of other", x.other(1), 2);
        dueWorths(x, 2, 1, 2, 3, 4, 5, 6, 70);
        due("no such", x.other(3), BAD);
        due("below 0", x.other(-1), BAD);
        due("other where full", full().other(0), FULL);
        due("bad other where full", full().other(10), BAD);
        JointWorks y = told(2, 100, 100, -100);
        y.sum(0, 0, 3, 3);
        y.sum(1, 0, 1, 3);
        due("other beyond 1000", y.other(2), 3);
        dueWorths(y, 3, -1800, -1800, -900);
    }

    private static void close() {
        JointWorks x = new JointWorks();
        due("close of none", x.close(), STATE);
        x.venture(1);
        x.venture(2);
        due("close", x.close(), 1);
        due("gone", x.told(1, 1), BAD);
        due("stays", x.told(0, 1), 1);
        due("venture anew", x.gloves(3, 1), 1);
        due("n anew", x.told(1, 1), 3);
        x.write(1);
        x.act(1, 0, 1);
        due("close", x.close(), 1);
        due("close", x.close(), 0);
        due("close", x.close(), STATE);
        due("rows stay", x.count(1), 15);
        due("trace stays", x.trace(0), 10);
        JointWorks y = full();
        due("close of ten", y.close(), 9);
        due("room again", y.venture(1), 9);
    }

    private static void told() {
        JointWorks x = told(3, 0, 0, 1, 0, 1, 1, 2);
        long[] want = {0, 3, 1, 3, 1, 0, 0};
        for (int what = 0; what < want.length; what++) {
            due("told(0, " + what + ")", x.told(0, what), want[what]);
        }
        due("told(0, 7)", x.told(0, 7), BAD);
        due("told(0, -1)", x.told(0, -1), BAD);
        due("told(1, 0)", x.told(1, 0), BAD);
        due("told(-1, 0)", x.told(-1, 0), BAD);
        x.set(0, 7, 1);
        due("no core", x.told(0, 2), 0);
        due("no corners", x.told(0, 3), 0);
        due("not convex", x.told(0, 4), 0);
        x.set(0, 7, 100);
        due("core again", x.told(0, 3), 6);
        JointWorks additive = told(3, 2, -3, -1, 4, 6, 1, 3);
        due("all are dummies", additive.told(0, 5), 7);
        due("one corner", additive.told(0, 3), 1);
        due("convex", additive.told(0, 4), 1);
        due("one spoils", additive.told(0, 6), 1);
        JointWorks one = told(1, -5);
        due("core of one", one.told(0, 2), 1);
        due("corners of one", one.told(0, 3), 1);
        due("dummy alone", one.told(0, 5), 1);
        due("convex alone", one.told(0, 4), 1);
        due("spoils alone", one.told(0, 6), 1);
        due("who adds 0 spoils nothing", told(2, 0, 0, 0).told(0, 6), 0);
        due("two spoil", told(2, 3, 4, 2).told(0, 6), 2);
        due("dummy 1", told(2, 1, 2, 3).told(0, 5), 3);
        due("no dummy", told(2, 1, 2, 4).told(0, 5), 0);
        JointWorks third = told(3, 0, 0, 5, 2, 2, 2, 7);
        due("only the third", third.told(0, 5), 4);
        JointWorks four = told(4, 0, 0, 1, 0, 1, 1, 4, 0, 1, 1, 4, 1, 4, 4, 9);
        due("24 corners", four.told(0, 3), 24);
        due("a point", told(3, 0, 0, 2, 0, 2, 2, 3).told(0, 3), 1);
    }

    private static void worth() {
        JointWorks x = told(2, 5, -7, 9);
        due("worth(0, 0)", x.worth(0, 0), 0);
        due("worth(0, 2)", x.worth(0, 2), -7);
        due("worth(0, 4)", x.worth(0, 4), NO);
        due("worth(0, -1)", x.worth(0, -1), NO);
        due("worth(1, 0)", x.worth(1, 0), NO);
        due("worth(-1, 0)", x.worth(-1, 0), NO);
        due("worth(lowest, highest)", x.worth(LOWEST, HIGHEST), NO);
    }

    private static void adds() {
        JointWorks x = told(2, 5, -7, 9);
        due("adds(0, 0, 0)", x.adds(0, 0, 0), 5);
        due("adds(0, 0, 2)", x.adds(0, 0, 2), 16);
        due("adds(0, 1, 1)", x.adds(0, 1, 1), 4);
        due("is in it", x.adds(0, 1, 2), NO);
        due("is in ALL", x.adds(0, 1, 3), NO);
        due("no such set", x.adds(0, 0, 4), NO);
        due("no such set, below 0", x.adds(0, 0, -2), NO);
        due("no such partner", x.adds(0, 2, 0), NO);
        due("no such partner, below 0", x.adds(0, -1, 0), NO);
        due("partner 32", x.adds(0, 32, 0), NO);
        due("no such venture", x.adds(1, 0, 0), NO);
    }

    private static void part() {
        JointWorks x = told(3, 1, 2, 7, 0, 6, 5, 10);
        dueFraction("TURNS of 0", x.part(0, 0, 0, 0), x.part(0, 0, 0, 1), 23, 6);
        dueFraction("TURNS of 1", x.part(0, 0, 1, 0), x.part(0, 0, 1, 1), 23, 6);
        dueFraction("TURNS of 2", x.part(0, 0, 2, 0), x.part(0, 0, 2, 1), 7, 3);
        dueFraction("EQUAL of 0", x.part(0, 1, 0, 0), x.part(0, 1, 0, 1), 10, 3);
        dueFraction("EQUAL of 1", x.part(0, 1, 1, 0), x.part(0, 1, 1, 1), 13, 3);
        dueFraction("EQUAL of 2", x.part(0, 1, 2, 0), x.part(0, 1, 2, 1), 7, 3);
        due("way 2", x.part(0, 2, 0, 0), NO);
        due("way -1", x.part(0, -1, 0, 0), NO);
        due("partner 3", x.part(0, 0, 3, 0), NO);
        due("partner -1", x.part(0, 0, -1, 0), NO);
        due("what 2", x.part(0, 0, 0, 2), NO);
        due("what -1", x.part(0, 0, 0, -1), NO);
        due("venture 1", x.part(1, 0, 0, 0), NO);
        JointWorks none = told(4);
        dueFraction("TURNS 0", none.part(0, 0, 3, 0), none.part(0, 0, 3, 1), 0, 1);
        dueFraction("EQUAL 0", none.part(0, 1, 3, 0), none.part(0, 1, 3, 1), 0, 1);
        JointWorks four = told(4, 0, 0, 0, 0, 0, 0, 0, 0, 0, 0, 0, 0, 0, 1, 0);
        dueFraction("TURNS of 0 of four", four.part(0, 0, 0, 0), four.part(0, 0, 0, 1), -1, 4);
        dueFraction("TURNS of 1 of four", four.part(0, 0, 1, 0), four.part(0, 0, 1, 1), 1, 12);
        JointWorks one = told(1, -6);
        dueFraction("TURNS of one", one.part(0, 0, 0, 0), one.part(0, 0, 0, 1), -6, 1);
        dueFraction("EQUAL of one", one.part(0, 1, 0, 0), one.part(0, 1, 0, 1), -6, 1);
    }

    private static void lacks() {
        JointWorks x = told(3, 1, 2, 7, 0, 6, 5, 10);
        dueFraction("TURNS for 1", x.lacks(0, 0, 1, 0), x.lacks(0, 0, 1, 1), -17, 6);
        dueFraction("TURNS for 5", x.lacks(0, 0, 5, 0), x.lacks(0, 0, 5, 1), -1, 6);
        dueFraction("TURNS for 6", x.lacks(0, 0, 6, 0), x.lacks(0, 0, 6, 1), -7, 6);
        dueFraction("EQUAL for 3", x.lacks(0, 1, 3, 0), x.lacks(0, 1, 3, 1), -2, 3);
        dueFraction("EQUAL for 5", x.lacks(0, 1, 5, 0), x.lacks(0, 1, 5, 1), 1, 3);
        due("for the empty set", x.lacks(0, 0, 0, 0), NO);
        due("for ALL", x.lacks(0, 0, 7, 0), NO);
        due("for -1", x.lacks(0, 0, -1, 0), NO);
        due("way 2", x.lacks(0, 2, 1, 0), NO);
        due("what 2", x.lacks(0, 0, 1, 2), NO);
        due("venture 1", x.lacks(1, 0, 1, 0), NO);
        due("one alone", told(1, 3).lacks(0, 0, 1, 0), NO);
        JointWorks two = told(2, 3, 4, 7);
        dueFraction("0", two.lacks(0, 0, 1, 0), two.lacks(0, 0, 1, 1), 0, 1);
    }

    private static void worst() {
        JointWorks x = told(3, 1, 2, 7, 0, 6, 5, 10);
        due("by TURNS", x.worst(0, 0), 5);
        due("by EQUAL", x.worst(0, 1), 5);
        due("way 2", x.worst(0, 2), BAD);
        due("way -1", x.worst(0, -1), BAD);
        due("venture 1", x.worst(1, 0), BAD);
        due("of like ones the least", told(4).worst(0, 0), 1);
        due("all lack below 0", told(2, 1, 1, 9).worst(0, 1), 1);
        due("ways differ, TURNS", told(3, 7, 6, 3, 1, 7, 0, 6).worst(0, 0), 2);
        due("ways differ, EQUAL", told(3, 7, 6, 3, 1, 7, 0, 6).worst(0, 1), 5);
        JointWorks one = told(1, 3);
        due("one alone", one.worst(0, 0), NONE);
        due("one alone, EQUAL", one.worst(0, 1), NONE);
        due("one alone, way 2", one.worst(0, 2), BAD);
    }

    private static void corner() {
        JointWorks x = told(3, 0, 0, 1, 0, 1, 1, 2);
        long[][] want = {{0, 1, 1}, {1, 0, 1}, {1, 1, 0}};
        for (int i = 0; i < 3; i++) {
            for (int p = 0; p < 3; p++) {
                dueFraction("corner " + i, x.corner(0, i, p, 0), x.corner(0, i, p, 1),
                        want[i][p], 1);
            }
        }
        due("corner 3", x.corner(0, 3, 0, 0), NO);
        due("corner -1", x.corner(0, -1, 0, 0), NO);
        due("partner 3", x.corner(0, 0, 3, 0), NO);
        due("partner -1", x.corner(0, 1, -1, 0), NO);
        due("what 2", x.corner(0, 0, 0, 2), NO);
        due("venture 1", x.corner(1, 0, 0, 0), NO);
        // Where three pairs get just 1 each, their partners get a half each.
        x = told(4, 0, 0, 1, 0, 1, 1, 0, 0, 0, 0, 0, 0, 0, 0, 3);
        boolean half = false;
        for (int i = 0; i < x.told(0, 3); i++) {
            half |= x.corner(0, i, 0, 0) == 1 && x.corner(0, i, 0, 1) == 2
                    && x.corner(0, i, 3, 0) == 3 && x.corner(0, i, 3, 1) == 2;
        }
        due("a corner of halves", half ? 1 : 0, 1);
        JointWorks one = told(1, -7);
        dueFraction("of one", one.corner(0, 0, 0, 0), one.corner(0, 0, 0, 1), -7, 1);
        due("of one, corner 1", one.corner(0, 1, 0, 0), NO);
    }

    private static void spread() {
        JointWorks x = told(2, -3, 4, 9);
        dueFraction("least of 0", x.spread(0, 0, 0, 0), x.spread(0, 0, 0, 1), -3, 1);
        dueFraction("greatest of 0", x.spread(0, 0, 1, 0), x.spread(0, 0, 1, 1), 5, 1);
        dueFraction("least of 1", x.spread(0, 1, 0, 0), x.spread(0, 1, 0, 1), 4, 1);
        dueFraction("greatest of 1", x.spread(0, 1, 1, 0), x.spread(0, 1, 1, 1), 12, 1);
        due("way 2", x.spread(0, 0, 2, 0), NO);
        due("way -1", x.spread(0, 0, -1, 0), NO);
        due("partner 2", x.spread(0, 2, 0, 0), NO);
        due("what 2", x.spread(0, 0, 0, 2), NO);
        due("what -1", x.spread(0, 0, 0, -1), NO);
        due("venture 1", x.spread(1, 0, 0, 0), NO);
        x.set(0, 3, 0);
        due("no core", x.spread(0, 0, 0, 0), NO);
        due("no core, below", x.spread(0, 0, 0, 1), NO);
        JointWorks four = told(4, 0, 0, 1, 0, 1, 1, 0, 0, 0, 0, 0, 0, 0, 0, 3);
        dueFraction("of four", four.spread(0, 3, 1, 0), four.spread(0, 3, 1, 1), 3, 2);
    }

    private static void least() {
        JointWorks x = told(3, 0, 0, 1, 0, 1, 1, 1);
        dueFraction("of three", x.least(0, 0), x.least(0, 1), 1, 3);
        due("what 2", x.least(0, 2), NO);
        due("what -1", x.least(0, -1), NO);
        due("venture 1", x.least(1, 0), NO);
        due("n 1", told(1, 5).least(0, 0), NO);
        due("n 1, below", told(1, 5).least(0, 1), NO);
        JointWorks two = told(2, 1, 2, 4);
        dueFraction("below 0", two.least(0, 0), two.least(0, 1), -1, 2);
        JointWorks four = told(4, 0, 0, 0, 0, 0, 0, 1, 0, 0, 0, 1, 0, 1, 1, 1);
        dueFraction("of four", four.least(0, 0), four.least(0, 1), 1, 4);
        JointWorks uneven = told(4, 0, 0, 0, 0, 0, 0, 1, 0, 1, 1, 0, 1, 0, 0, 1);
        dueFraction("of 1/3 and 2/3", uneven.least(0, 0), uneven.least(0, 1), 2, 5);
        dueFraction("0", told(2, 1, 2, 3).least(0, 0), told(2, 1, 2, 3).least(0, 1), 0, 1);
    }

    private static void bar() {
        JointWorks x = told(4, 0, 0, 0, 0, 0, 0, 1, 0, 1, 1, 0, 1, 0, 0, 1);
        int[] thirds = {0, 0, 0, 0, 0, 0, 0, 2, 0, 1, 1, 0, 1, 0, 0};
        for (int set = 1; set < 15; set++) {
            dueFraction("weight of " + set, x.bar(0, set, 0), x.bar(0, set, 1), thirds[set],
                    thirds[set] == 0 ? 1 : 3);
        }
        due("of the empty set", x.bar(0, 0, 0), NO);
        due("of ALL", x.bar(0, 15, 0), NO);
        due("of -1", x.bar(0, -1, 0), NO);
        due("of 16", x.bar(0, 16, 0), NO);
        due("what 2", x.bar(0, 1, 2), NO);
        due("venture 1", x.bar(1, 1, 0), NO);
        due("n 1", told(1, 5).bar(0, 1, 0), NO);
        due("n 1, below", told(1, 5).bar(0, 1, 1), NO);
        // All LEAN weights have 0 here: the least number is that of 1, 2, 4 and 8.
        JointWorks none = told(4);
        for (int set = 1; set < 15; set++) {
            due("of like ones, " + set, none.bar(0, set, 0), Integer.bitCount(set) == 1 ? 1 : 0);
        }
        JointWorks halves = told(3, 0, 0, 1, 0, 1, 1, 1);
        dueFraction("half", halves.bar(0, 6, 0), halves.bar(0, 6, 1), 1, 2);
    }

    private static void where() {
        JointWorks x = told(3, 0, 0, 0, 0, 0, 0, 0);
        due("convex", x.where(0), NONE);
        x.set(0, 1, 1);
        due("partner 0, empty, 2", x.where(0), 2);
        x.set(0, 1, 0);
        x.set(0, 3, 1);
        due("partner 0, 2, 6", x.where(0), 16 * 2 + 6);
        due("told", x.told(0, 4), 0);
        JointWorks late = told(3, 0, 1, 1, 1, 1, 1, 1);
        due("partner 1, empty, 4", late.where(0), 256 + 4);
        due("venture 1", x.where(1), BAD);
        due("venture -1", x.where(-1), BAD);
        due("one alone", told(1, -3).where(0), NONE);
        due("two alone", told(2, 1, 1, 1).where(0), 2);
    }

    private static void like() {
        JointWorks x = told(3, 1, 1, 5, 2, 7, 7, 9);
        due("like(0, 0, 1)", x.like(0, 0, 1), 1);
        due("like(0, 1, 0)", x.like(0, 1, 0), 1);
        due("like(0, 0, 2)", x.like(0, 0, 2), 0);
        x.set(0, 5, 8);
        due("like for one set alone", x.like(0, 0, 1), 0);
        due("unlike for the empty set alone", told(2, 1, 2, 3).like(0, 0, 1), 0);
        due("a = b", x.like(0, 1, 1), BAD);
        due("a 3", x.like(0, 3, 1), BAD);
        due("b 3", x.like(0, 0, 3), BAD);
        due("a -1", x.like(0, -1, 1), BAD);
        due("b -1", x.like(0, 1, -1), BAD);
        due("venture 1", x.like(1, 0, 1), BAD);
    }

    private static void power() {
        JointWorks x = new JointWorks();
        x.votes(3, code(21, 2, 1, 1), 3);
        due("sets of 0", x.power(0, 0, 0), 3);
        due("sets of 1", x.power(0, 1, 0), 1);
        due("orders of 0", x.power(0, 0, 1), 4);
        due("orders of 2", x.power(0, 2, 1), 1);
        due("way 2", x.power(0, 0, 2), BAD);
        due("way -1", x.power(0, 0, -1), BAD);
        due("partner 3", x.power(0, 3, 0), BAD);
        due("venture 1", x.power(1, 0, 0), BAD);
        x.venture(2);
        x.other(0);
        due("of TOLD", x.power(1, 0, 0), STATE);
        due("of JOINED", x.power(2, 0, 0), STATE);
        due("of TOLD, way 2", x.power(1, 0, 2), BAD);
        due("of TOLD, partner 2", x.power(1, 2, 0), BAD);
        x.votes(4, code(21, 1, 1, 1, 1), 4);
        due("sets of four", x.power(3, 2, 0), 1);
        due("orders of four", x.power(3, 2, 1), 6);
        x.votes(1, 3, 3);
        due("orders of one", x.power(4, 0, 1), 1);
        x.votes(2, 2, 3);
        due("never", x.power(5, 0, 1), 0);
    }

    private static void write() {
        JointWorks x = told(2, 1, 2, 4);
        due("write(0)", x.write(0), 9);
        long[] want = {1, 2, 4, 3, 2, 5, 2, -1, 2};
        for (int i = 0; i < want.length; i++) {
            due("row(" + i + ")", x.row(i), want[i]);
        }
        due("write(1)", x.write(1), BAD);
        due("write(-1)", x.write(-1), BAD);
        due("count(1)", x.count(1), 9);
        x.set(0, 1, 50);
        due("rows stand", x.row(0), 1);
        x.venture(4);
        due("write of four", x.write(1), 25);
        x.venture(1);
        due("write of one", x.write(2), 3);
        due("count(1)", x.count(1), 3);
        due("nothing of four left", x.row(3), NO);
    }

    private static void row() {
        JointWorks x = told(1, 8);
        due("none yet", x.row(0), NO);
        x.write(0);
        due("row(0)", x.row(0), 8);
        due("row(1)", x.row(1), 8);
        due("row(2)", x.row(2), 1);
        due("row(3)", x.row(3), NO);
        due("row(-1)", x.row(-1), NO);
        due("row(25)", x.row(25), NO);
        due("row(highest)", x.row(HIGHEST), NO);
    }

    private static void forge() {
        JointWorks x = told(1, 8);
        due("none yet", x.forge(0, 1), BAD);
        x.write(0);
        due("forge(2, ..)", x.forge(2, Long.MIN_VALUE), 1);
        due("row(2)", x.row(2), Long.MIN_VALUE);
        due("forge(0, NO)", x.forge(0, NO), 1);
        due("row(0)", x.row(0), NO);
        due("forge(3, 1)", x.forge(3, 1), BAD);
        due("forge(-1, 1)", x.forge(-1, 1), BAD);
        due("worth stands", x.worth(0, 1), 8);
    }

    private static void check() {
        JointWorks x = told(2, 1, 2, 4);
        due("no rows", x.check(0), 0);
        x.write(0);
        due("check(0)", x.check(0), NONE);
        x.forge(8, 3);
        due("last forged", x.check(0), 8);
        x.forge(4, 3);
        due("an earlier one too", x.check(0), 4);
        x.forge(4, 2);
        x.forge(8, 2);
        due("mended", x.check(0), NONE);
        x.set(0, 1, 2);
        due("another worth", x.check(0), 0);
        due("venture 1", x.check(1), BAD);
        due("rows stand", x.row(0), 1);
        JointWorks y = told(1, 8);
        y.venture(2);
        y.set(1, 1, 8);
        y.set(1, 2, 8);
        y.set(1, 3, 1);
        y.write(0);
        due("the rows end", y.check(1), 3);
        y.write(1);
        due("the venture's rows end", y.check(0), 3);
        y.forge(3, NO);
        due("NO is a number", y.check(0), 3);
    }

    private static void act() {
        JointWorks x = new JointWorks();
        x.venture(2);
        x.set(0, 3, 5);
        x.votes(3, code(21, 1, 1, 1), 2);
        x.runway(3, code(51, 2, 3, 2));
        x.gloves(3, 1);
        x.sum(0, 0, 2, 0);
        due("TOLD gives", x.act(0, 0, 7), 12);
        due("TOLD lacks", x.act(0, 1, 7), 24);
        due("TOLD shares", x.act(0, 2, 7), 24 ^ 12);
        due("VOTES gives", x.act(1, 0, 7), 16);
        due("VOTES lacks", x.act(1, 1, 7), 48);
        due("VOTES shares", x.act(1, 2, 7), (48 ^ 18) - 1);
        due("RUNWAY gives", x.act(2, 0, 7), 4);
        due("RUNWAY lacks", x.act(2, 1, 7), 14);
        due("RUNWAY shares", x.act(2, 2, 7), 14 ^ 6);
        due("GLOVES gives", x.act(3, 0, 7), 8);
        due("GLOVES lacks", x.act(3, 1, 7), 24);
        due("GLOVES shares", x.act(3, 2, 7), 8 - (27 ^ 12));
        due("JOINED gives", x.act(4, 0, 7), 15);
        due("JOINED lacks", x.act(4, 1, 7), 30 ^ 17);
        due("JOINED shares", x.act(4, 2, 7), (30 ^ 17) ^ 19);
        due("wraps", x.act(0, 1, HIGHEST), (HIGHEST + 5) * 2);
        due("a trace", x.count(2), 2);
        due("act 3", x.act(0, 3, 7), 0);
        due("no trace", x.count(2), 0);
        due("trace(0)", x.trace(0), NONE);
        x.act(0, 0, 7);
        due("act -1", x.act(0, -1, 7), 0);
        due("no trace", x.count(2), 0);
        x.act(0, 0, 7);
        due("venture 5", x.act(5, 0, 7), 0);
        due("no trace", x.count(2), 0);
    }

    private static void dueTrace(JointWorks x, int venture, int act, int... want) {
        x.act(venture, act, 3);
        for (int i = 0; i < want.length; i++) {
            due("trace(" + i + ") of " + venture + ", " + act, x.trace(i), want[i]);
        }
        due("trace's end of " + venture + ", " + act, x.trace(want.length), NONE);
        due("count(2) of " + venture + ", " + act, x.count(2), want.length);
    }

    private static void trace() {
        JointWorks x = new JointWorks();
        x.venture(2);
        x.votes(2, 1, 1);
        x.runway(2, 1);
        x.gloves(2, 1);
        x.other(0);
        dueTrace(x, 0, 0, 10);
        dueTrace(x, 0, 1, 11, 10);
        dueTrace(x, 0, 2, 12, 11, 10, 10);
        dueTrace(x, 1, 0, 20, 10);
        dueTrace(x, 1, 1, 11, 20, 10);
        dueTrace(x, 1, 2, 21, 12, 11, 20, 10, 20, 10);
        dueTrace(x, 2, 0, 10);
        dueTrace(x, 2, 1, 30, 11, 10);
        dueTrace(x, 2, 2, 12, 30, 11, 10, 10);
        dueTrace(x, 3, 0, 10);
        dueTrace(x, 3, 1, 11, 10);
        dueTrace(x, 3, 2, 40, 10, 12, 11, 10, 10);
        dueTrace(x, 4, 0, 50, 10);
        dueTrace(x, 4, 1, 51, 11, 50, 10, 10);
        dueTrace(x, 4, 2, 12, 51, 11, 50, 10, 10, 50, 10);
        due("trace(-1)", x.trace(-1), NONE);
        due("trace(40)", x.trace(40), NONE);
        due("trace(highest)", x.trace(HIGHEST), NONE);
    }

    private static void count() {
        JointWorks x = told(2, 1, 2, 4);
        x.venture(1);
        x.write(0);
        x.act(0, 1, 1);
        due("count(0)", x.count(0), 2);
        due("count(1)", x.count(1), 9);
        due("count(2)", x.count(2), 2);
        due("count(3)", x.count(3), BAD);
        due("count(-1)", x.count(-1), BAD);
    }

    private static void sheet() {
        JointWorks x = new JointWorks();
        due("sheet(4, 0, 1)", x.sheet(4, 0, 1), BAD);
        due("sheet(-1, 0, 1)", x.sheet(-1, 0, 1), BAD);
        due("sheet(0, 3, 1)", x.sheet(0, 3, 1), BAD);
        due("sheet(0, -2, 1)", x.sheet(0, -2, 1), BAD);
        due("sheet(0, 0, 41)", x.sheet(0, 0, 41), BAD);
        due("sheet(0, 0, -1)", x.sheet(0, 0, -1), BELOW_ZERO);
        due("sheet(4, 0, -1)", x.sheet(4, 0, -1), BAD);
        due("sheet(0, 3, -1)", x.sheet(0, 3, -1), BAD);
        due("still missing", x.cell(0, 0, 1), NOTHING);
        due("sheet(3, 2, 40)", x.sheet(3, 2, 40), 1);
        due("its last", x.cell(3, 39, 1), 1);
        due("beyond", x.cell(3, 40, 1), OUTSIDE);
        due("sheet(3, 1, 0)", x.sheet(3, 1, 0), 1);
        due("none in it", x.cell(3, 0, 1), OUTSIDE);
        due("refused", x.sheet(3, 2, -1), BELOW_ZERO);
        due("as before", x.cell(3, 0, 1), OUTSIDE);
        due("sheet(3, -1, 41)", x.sheet(3, -1, 41), 1);
        due("missing", x.cell(3, 0, 1), NOTHING);
        due("sheet(3, -1, -9)", x.sheet(3, -1, -9), 1);
        x.venture(1);
        x.set(0, 1, 9);
        x.sheet(2, 1, 1);
        x.cell(2, 0, 50);
        x.sheet(2, 1, 1);
        x.lay(0, 2, 1, 0);
        due("all 0 anew", x.worth(0, 1), 0);
    }

    private static void cell() {
        JointWorks x = new JointWorks();
        x.venture(1);
        due("cell(4, 0, 1)", x.cell(4, 0, 1), BAD);
        due("cell(-1, 0, 1)", x.cell(-1, 0, 1), BAD);
        due("missing", x.cell(0, -1, 1), NOTHING);
        x.sheet(0, 0, 2);
        due("cell(0, -1, 1)", x.cell(0, -1, 1), OUTSIDE);
        due("cell(0, 2, 1)", x.cell(0, 2, 1), OUTSIDE);
        due("cell(0, highest, 1)", x.cell(0, HIGHEST, 1), OUTSIDE);
        due("cell(0, 1, 512 - 3)", x.cell(0, 1, 512 - 3), 1);
        due("lay", x.lay(0, 0, 0, 1), 1);
        due("its lowest 8 bits", x.worth(0, 1), -3);
        x.cell(0, 0, 256 + 77);
        x.lay(0, 0, 0, 0);
        due("its lowest 8 bits", x.worth(0, 1), 77);
        x.sheet(0, 1, 1);
        x.cell(0, 0, 256 + 77);
        due("ints hold it whole", x.lay(0, 0, 1, 0), BAD);
        x.sheet(0, 2, 1);
        x.cell(0, 0, -77);
        due("longs", x.lay(0, 0, 2, 0), 1);
        due("worth", x.worth(0, 1), -77);
    }

    private static void lay() {
        JointWorks x = told(2, 7, 8, 9);
        x.gloves(2, 1);
        x.sheet(0, 1, 5);
        for (int i = 0; i < 5; i++) {
            x.cell(0, i, 98 + i);
        }
        due("lay(0, 0, 1, 0)", x.lay(0, 0, 1, 0), 1);
        dueWorths(x, 0, 98, 99, 100);
        due("core follows", x.told(0, 3), 0);
        x.cell(0, 3, -100);
        x.cell(0, 1, 0);
        due("lay(0, 0, 1, 1)", x.lay(0, 0, 1, 1), 1);
        dueWorths(x, 0, 0, 100, -100);
        due("an item is 102", x.lay(0, 0, 1, 2), BAD);
        x.cell(0, 4, -101);
        due("an item is -101", x.lay(0, 0, 1, 2), BAD);
        dueWorths(x, 0, 0, 100, -100);
        due("i 3", x.lay(0, 0, 1, 3), OUTSIDE);
        due("i -1", x.lay(0, 0, 1, -1), OUTSIDE);
        due("i highest", x.lay(0, 0, 1, HIGHEST), OUTSIDE);
        due("i lowest", x.lay(0, 0, 1, LOWEST), OUTSIDE);
        due("sort 2", x.lay(0, 0, 2, -1), OTHER_SORT);
        due("missing", x.lay(0, 1, 2, -1), NOTHING);
        due("GLOVES", x.lay(1, 1, 2, -1), STATE);
        due("GLOVES, no such sort", x.lay(1, 1, 3, -1), BAD);
        due("sort -1", x.lay(0, 1, -1, 0), BAD);
        due("sheet 4", x.lay(0, 4, 1, 0), BAD);
        due("sheet -1", x.lay(0, -1, 1, 0), BAD);
        due("venture 2", x.lay(2, 0, 1, 0), BAD);
        dueWorths(x, 0, 0, 100, -100);
    }

    private static void copy() {
        JointWorks x = new JointWorks();
        x.venture(2);
        x.sheet(0, 2, 4);
        for (int i = 0; i < 4; i++) {
            x.cell(0, i, i + 1);
        }
        due("onto itself, behind", x.copy(0, 0, 0, 1, 3), 3);
        x.lay(0, 0, 2, 1);
        dueWorths(x, 0, 1, 2, 3);
        due("onto itself, ahead", x.copy(0, 1, 0, 0, 3), 3);
        x.lay(0, 0, 2, 0);
        dueWorths(x, 0, 1, 2, 3);
        x.sheet(1, 2, 3);
        due("to another", x.copy(0, 1, 1, 1, 2), 2);
        x.lay(0, 1, 2, 0);
        dueWorths(x, 0, 0, 2, 3);
        due("none, at both ends", x.copy(0, 4, 1, 3, 0), 0);
        due("none, beyond", x.copy(0, 5, 1, 3, 0), OUTSIDE);
        due("none, beyond the other", x.copy(0, 4, 1, 4, 0), OUTSIDE);
        due("n -1", x.copy(0, 0, 1, 0, -1), OUTSIDE);
        due("i -1", x.copy(0, -1, 1, 0, 1), OUTSIDE);
        due("j -1", x.copy(0, 0, 1, -1, 1), OUTSIDE);
        due("beyond the one", x.copy(0, 3, 1, 0, 2), OUTSIDE);
        due("beyond the other", x.copy(0, 0, 1, 0, 4), OUTSIDE);
        due("n highest", x.copy(0, 1, 1, 1, HIGHEST), OUTSIDE);
        x.sheet(2, 1, 4);
        due("unlike sorts", x.copy(0, 0, 2, 0, -1), OTHER_SORT);
        due("missing other", x.copy(0, 0, 3, 0, -1), NOTHING);
        due("missing one", x.copy(3, 0, 0, 0, -1), NOTHING);
        due("both missing", x.copy(3, 0, 3, 0, 0), NOTHING);
        due("sheet 4", x.copy(4, 0, 3, 0, 0), BAD);
        due("other 4", x.copy(3, 0, 4, 0, 0), BAD);
        due("sheet -1", x.copy(-1, 0, 3, 0, 0), BAD);
    }

    private static void taken() {
        JointWorks x = new JointWorks();
        x.venture(1);
        x.votes(2, 1, 1);
        x.runway(3, 1);
        x.gloves(4, 1);
        x.other(2);
        int[] sizes = {1, 2, 3, 4, 3};
        for (int venture = 0; venture < 5; venture++) {
            for (int k = 0; k < 5; k++) {
                boolean fits = k == 0 || k == venture;
                due("taken(" + venture + ", " + k + ")", x.taken(venture, k),
                        fits ? sizes[venture] : OTHER_SORT);
            }
        }
        due("k 5", x.taken(0, 5), BAD);
        due("k -1", x.taken(0, -1), BAD);
        due("k 5, no such venture", x.taken(9, 5), BAD);
        due("no such venture", x.taken(5, 1), NOTHING);
        due("no such venture, below 0", x.taken(-1, 0), NOTHING);
    }

    private static void firstHalf() {
        promise = 1; newObject();
        promise = 2; venture();
        promise = 3; set();
        promise = 4; votes();
        promise = 5; runway();
        promise = 6; gloves();
        promise = 7; sum();
        promise = 8; drop();
        promise = 9; join();
        promise = 10; other();
        promise = 11; close();
        promise = 12; told();
        promise = 13; worth();
        promise = 14; adds();
        promise = 15; part();
        promise = 16; lacks();
        promise = 17; worst();
        promise = 18; corner();
    }

    private static void secondHalf() {
        promise = 19; spread();
        promise = 20; least();
        promise = 21; bar();
        promise = 22; where();
        promise = 23; like();
        promise = 24; power();
        promise = 25; write();
        promise = 26; row();
        promise = 27; forge();
        promise = 28; check();
        promise = 29; act();
        promise = 30; trace();
        promise = 31; count();
        promise = 32; sheet();
        promise = 33; cell();
        promise = 34; lay();
        promise = 35; copy();
        promise = 36; taken();
    }

    public static void main(String[] args) {
        firstHalf();
        secondHalf();
        System.out.println(wrong == 0 ? "all promises hold" : wrong + " answers are not as due");
        if (wrong != 0) {
            System.exit(1);
        }
    }
}
