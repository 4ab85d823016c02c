/** For each promise of the document: ordinary inputs, the edges that it names, and wrong inputs. */
public final class PromisesTest {
    private static final int[] NO_END = {-1, 2, 3, Integer.MIN_VALUE, Integer.MAX_VALUE};

    private static int wrong = 0;

    private static void due(String call, int got, int want) {
        if (got != want) {
            wrong++;
            System.out.println(call + " answered " + got + ", due is " + want);
        }
    }

    public static void main(String[] args) {
        newObject();
        newObjectsAreApart();
        sendNumbersWires();
        sendTurns();
        sendRefused();
        takeInOrder();
        takeWrongInputs();
        takeSkipsUpToFive();
        takeSkipsToBefore();
        takeRefusesTooFarBefore();
        takeSkipsNothingWithoutReceive();
        takeLeavesEight();
        takeLeavesEightOfTwoSkips();
        takeRefusedChangesNothing();
        takeOfForkedChains();
        lookCounts();
        derivedByChain();
        derivedByLeftKeys();
        derivedHeals();
        derivedByOneSecretAndOnePublic();
        derivedNeedsTheRoot();
        derivedOfResentKeys();
        opensWires();
        backAndKeep();
        backToTheBeginning();
        keepHoldsLeftKeys();
        endTells();
        agreeTells();
        countTells();
        System.out.println(wrong == 0 ? "all answers are as due" : wrong + " answers are not as due");
        if (wrong != 0) {
            System.exit(1);
        }
    }

    private static void dueEnd(String when, TurnedKeys x, int e, int... want) {
        for (int what = 0; what < want.length; what++) {
            due(when + ": end(" + e + ", " + what + ")", x.end(e, what), want[what]);
        }
    }

    private static void sends(TurnedKeys x, int e, int from, int to) {
        for (int w = from; w <= to; w++) {
            due("send(" + e + ")", x.send(e), w);
        }
    }

    private static void takes(String when, TurnedKeys x, int e, int want, int... wires) {
        for (int w : wires) {
            due(when + ": take(" + e + ", " + w + ")", x.take(e, w), want);
        }
    }

    /** End 0 has sent wires 0 to last; end 1 took the one told, answered, and end 0 took the answer. */
    private static TurnedKeys answered(int last, int taken) {
        TurnedKeys x = new TurnedKeys();
        sends(x, 0, 0, last);
        takes("answered", x, 1, 1, taken);
        sends(x, 1, last + 1, last + 1);
        takes("answered", x, 0, 1, last + 1);
        return x;
    }

    // Promise 1

    private static void newObject() {
        TurnedKeys x = new TurnedKeys();
        dueEnd("new", x, 0, 0, 0, 0, 0, 1, 1, 0);
        dueEnd("new", x, 1, 0, 0, 0, 0, 0, 0, 0);
        due("new: count(0)", x.count(0), 0);
        due("new: count(1)", x.count(1), 4);
        due("new: agree()", x.agree(), 0);
        due("new: derived(0)", x.derived(0), TurnedKeys.NONE);
        due("new: opens(0)", x.opens(0), TurnedKeys.NONE);
        due("new: take(1, 0)", x.take(1, 0), TurnedKeys.NONE);
        due("NONE", TurnedKeys.NONE, -1);
    }

    private static void newObjectsAreApart() {
        TurnedKeys x = new TurnedKeys();
        TurnedKeys y = new TurnedKeys();
        sends(x, 0, 0, 1);
        x.look(1);
        due("apart: count(0)", y.count(0), 0);
        due("apart: count(1)", y.count(1), 4);
        sends(y, 0, 0, 0);
        due("apart: derived(0)", y.derived(0), 0);
        due("apart: derived(0)", x.derived(0), 1);
    }

    // Promise 2

    private static void sendNumbersWires() {
        TurnedKeys x = answered(2, 0);
        sends(x, 1, 4, 5);
        sends(x, 0, 6, 6);
        sends(x, 1, 7, 7);
        due("numbers: count(0)", x.count(0), 8);
    }

    private static void sendTurns() {
        TurnedKeys x = new TurnedKeys();
        sends(x, 0, 0, 2);
        dueEnd("sent on the first chain", x, 0, 3, 0);
        due("a letter each: count(1)", x.count(1), 7);
        takes("turns", x, 1, 1, 0);
        sends(x, 1, 3, 3);
        dueEnd("the first answer", x, 1, 1, 0, 1, 0, 1, 1, 1);
        due("a letter and MINE: count(1)", x.count(1), 9);
        sends(x, 1, 4, 4);
        dueEnd("the same chain", x, 1, 2, 0);
        due("a letter: count(1)", x.count(1), 10);
        takes("turns", x, 0, 1, 4);
        dueEnd("SEND went, N stays", x, 0, 3, 0, 2, 1, 1, 0, 1);
        sends(x, 0, 5, 5);
        dueEnd("a new chain", x, 0, 1, 3, 2, 1, 1, 1, 1);
        due("a letter and MINE: count(1)", x.count(1), 12);
    }

    private static void sendRefused() {
        TurnedKeys x = new TurnedKeys();
        due("without THEIRS: send(1)", x.send(1), -5);
        due("refused: count(0)", x.count(0), 0);
        due("refused: count(1)", x.count(1), 4);
        dueEnd("refused", x, 1, 0, 0, 0, 0, 0, 0, 0);
        for (int e : NO_END) {
            due("send(" + e + ")", x.send(e), TurnedKeys.NONE);
        }
        due("no end: count(0)", x.count(0), 0);
        due("no end: count(1)", x.count(1), 4);
        sends(x, 0, 0, 0);
        due("still without THEIRS: send(1)", x.send(1), -5);
    }

    // Promise 3

    private static void takeInOrder() {
        TurnedKeys x = new TurnedKeys();
        sends(x, 0, 0, 1);
        takes("in order", x, 1, 1, 0);
        dueEnd("in order", x, 1, 0, 0, 1, 0, 1, 0, 1);
        takes("in order", x, 1, 1, 1);
        dueEnd("in order", x, 1, 0, 0, 2, 0, 1, 0, 1);
        takes("twice", x, 1, -13, 0, 1);
        due("a take draws nothing: count(1)", x.count(1), 6);
    }

    private static void takeWrongInputs() {
        TurnedKeys x = answered(0, 0);
        for (int e : NO_END) {
            due("take(" + e + ", 0)", x.take(e, 0), TurnedKeys.NONE);
        }
        takes("no wire", x, 1, TurnedKeys.NONE, -1, 2, 3, Integer.MIN_VALUE, Integer.MAX_VALUE);
        takes("no wire", x, 0, TurnedKeys.NONE, -1, 2, Integer.MIN_VALUE, Integer.MAX_VALUE);
        takes("its own", x, 0, -11, 0);
        takes("its own", x, 1, -11, 1);
        dueEnd("wrong inputs", x, 0, 1, 0, 1, 0, 1, 0, 1);
        dueEnd("wrong inputs", x, 1, 1, 0, 1, 0, 1, 1, 1);
    }

    private static void takeSkipsUpToFive() {
        TurnedKeys x = new TurnedKeys();
        sends(x, 0, 0, 12);
        takes("six at first", x, 1, -13, 6, 7, 12);
        takes("five at first", x, 1, 1, 5);
        dueEnd("five at first", x, 1, 0, 0, 6, 5, 1, 0, 1);
        takes("six", x, 1, -13, 12);
        takes("late ones, in any order", x, 1, 1, 3, 0, 4, 1, 2);
        dueEnd("none left", x, 1, 0, 0, 6, 0, 1, 0, 1);
        takes("late ones twice", x, 1, -13, 3, 0, 4, 1, 2, 5);
        takes("five", x, 1, 1, 11);
        takes("by the chain", x, 1, 1, 12);
        dueEnd("five", x, 1, 0, 0, 13, 5, 1, 0, 1);
    }

    private static void takeSkipsToBefore() {
        TurnedKeys x = answered(5, 0);
        sends(x, 0, 7, 8);
        takes("BEFORE is five above NEXT", x, 1, 1, 7);
        dueEnd("left of the chain before", x, 1, 1, 0, 1, 5, 1, 0, 1);
        takes("late of the chain before", x, 1, 1, 5, 1);
        takes("by the chain", x, 1, 1, 8);
        takes("late of the chain before", x, 1, 1, 3, 2, 4);
        takes("twice, by a root that went on", x, 1, -14, 0, 1, 5);
        takes("twice, of this chain", x, 1, -13, 7, 8);
        dueEnd("none left", x, 1, 1, 0, 2, 0, 1, 0, 1);
    }

    private static void takeRefusesTooFarBefore() {
        TurnedKeys x = answered(6, 0);
        sends(x, 0, 8, 8);
        takes("BEFORE is six above NEXT", x, 1, -13, 8);
        dueEnd("BEFORE is six above NEXT", x, 1, 1, 0, 1, 0, 1, 1, 1);
        takes("one of them", x, 1, 1, 1);
        takes("BEFORE is five above NEXT", x, 1, 1, 8);
        dueEnd("BEFORE is five above NEXT", x, 1, 1, 0, 1, 5, 1, 0, 1);
    }

    private static void takeSkipsNothingWithoutReceive() {
        TurnedKeys x = answered(6, 0);
        sends(x, 0, 8, 8);
        x.back(1);
        takes("BEFORE is seven, but there is no RECEIVE", x, 1, -14, 8);
        dueEnd("still at the beginning", x, 1, 0, 0, 0, 0, 0, 0, 0);
    }

    private static void takeLeavesEight() {
        TurnedKeys x = answered(5, 5);
        sends(x, 0, 7, 12);
        takes("skips again", x, 1, 1, 12);
        due("eight left: end(1, 3)", x.end(1, 3), 8);
        takes("the oldest two went", x, 1, -14, 0, 1);
        due("eight left: end(1, 3)", x.end(1, 3), 8);
        takes("the eight", x, 1, 1, 11, 2, 10, 3, 9, 4, 8, 7);
        due("none left: end(1, 3)", x.end(1, 3), 0);
    }

    private static void takeLeavesEightOfTwoSkips() {
        TurnedKeys x = answered(5, 0);
        sends(x, 0, 7, 13);
        takes("six in the new chain", x, 1, -13, 13);
        due("refused after a skip: end(1, 3)", x.end(1, 3), 0);
        due("refused after a skip: end(1, 2)", x.end(1, 2), 1);
        takes("five of each chain", x, 1, 1, 12);
        due("eight of ten: end(1, 3)", x.end(1, 3), 8);
        takes("the oldest two went", x, 1, -14, 1, 2);
        takes("the eight", x, 1, 1, 3, 4, 5, 7, 8, 9, 10, 11);
        due("none left: end(1, 3)", x.end(1, 3), 0);
    }

    private static void takeRefusedChangesNothing() {
        TurnedKeys x = answered(3, 2);
        sends(x, 0, 5, 5);
        dueEnd("before", x, 1, 1, 0, 3, 2, 1, 1, 1);
        x.keep(0);
        sends(x, 0, 6, 12);
        takes("too far", x, 1, -13, 12);
        takes("gone by", x, 1, -13, 2);
        dueEnd("refused", x, 1, 1, 0, 3, 2, 1, 1, 1);
        takes("all that is due", x, 1, 1, 5, 0, 1, 3, 6, 7, 8, 9, 10, 11, 12);
        due("refused takes turn no root: agree()", x.agree(), 1);
    }

    private static void takeOfForkedChains() {
        TurnedKeys x = new TurnedKeys();
        sends(x, 0, 0, 0);
        takes("fork", x, 1, 1, 0);
        x.keep(1);
        sends(x, 1, 1, 1);
        x.back(1);
        sends(x, 1, 2, 2);
        takes("one way of the fork", x, 0, 1, 1);
        dueEnd("one way", x, 0, 1, 0, 1, 0, 1, 0, 1);
        takes("the other way", x, 0, -14, 2);
        dueEnd("refused", x, 0, 1, 0, 1, 0, 1, 0, 1);
        due("the roots went apart: agree()", x.agree(), 0);
        sends(x, 0, 3, 3);
        takes("of the root that was left", x, 1, -14, 3);
        dueEnd("refused", x, 1, 1, 0, 1, 0, 1, 1, 1);
        sends(x, 1, 4, 4);
        takes("refused it kept its chain", x, 0, -14, 4);
    }

    // Promise 4

    private static void lookCounts() {
        TurnedKeys x = new TurnedKeys();
        due("THEIRS and SEND: look(0)", x.look(0), 5);
        due("BASE, ROOT, MINE: look(1)", x.look(1), 3);
        due("again: look(1)", x.look(1), 3);
        sends(x, 0, 0, 5);
        takes("look", x, 1, 1, 5);
        due("THEIRS, RECEIVE, five left: look(1)", x.look(1), 15);
        sends(x, 1, 6, 6);
        due("and SEND: look(1)", x.look(1), 16);
        takes("look", x, 1, 1, 3);
        due("four left: look(1)", x.look(1), 14);
        takes("look", x, 0, 1, 6);
        due("THEIRS, RECEIVE: look(0)", x.look(0), 5);
        for (int e : NO_END) {
            due("look(" + e + ")", x.look(e), TurnedKeys.NONE);
        }
    }

    // Promise 5

    private static void dueDerived(String when, TurnedKeys x, int want, int... letters) {
        for (int l : letters) {
            due(when + ": derived(" + l + ")", x.derived(l), want);
            due(when + ": opens(" + l + ")", x.opens(l), want);
        }
    }

    private static void derivedByChain() {
        TurnedKeys x = new TurnedKeys();
        sends(x, 0, 0, 2);
        dueDerived("no look", x, 0, 0, 1, 2);
        x.look(0);
        dueDerived("SEND went on", x, 0, 0, 1, 2);
        sends(x, 0, 3, 40);
        dueDerived("SEND goes on", x, 1, 3, 4, 20, 40);
        dueDerived("SEND does not go back", x, 0, 0, 1, 2);
        due("no letter: derived(-1)", x.derived(-1), TurnedKeys.NONE);
        due("no letter: derived(41)", x.derived(41), TurnedKeys.NONE);
        due("no letter", x.derived(Integer.MIN_VALUE), TurnedKeys.NONE);
        due("no letter", x.derived(Integer.MAX_VALUE), TurnedKeys.NONE);
        due("derived draws nothing: count(1)", x.count(1), 45);
    }

    private static void derivedByLeftKeys() {
        TurnedKeys x = new TurnedKeys();
        sends(x, 0, 0, 5);
        takes("left", x, 1, 1, 4, 1);
        x.look(1);
        dueDerived("the keys that were left", x, 1, 0, 2, 3);
        dueDerived("by the RECEIVE chain", x, 1, 5);
        dueDerived("the keys that went", x, 0, 1, 4);
    }

    private static void derivedHeals() {
        TurnedKeys x = answered(0, 0);
        sends(x, 0, 2, 2);
        x.look(0);
        takes("heals", x, 1, 1, 2);
        sends(x, 1, 3, 3);
        dueDerived("MINE and ROOT of 0 and the new PUBLIC of 1", x, 1, 3);
        takes("heals", x, 0, 1, 3);
        sends(x, 0, 4, 4);
        dueDerived("two new SECRETS", x, 0, 4);
        takes("heals", x, 1, 1, 4);
        sends(x, 1, 5, 5);
        dueDerived("healed", x, 0, 5, 0, 1, 2);
        x.look(1);
        dueDerived("a look at once more", x, 0, 0, 1, 2, 4, 5);
    }

    private static void derivedByOneSecretAndOnePublic() {
        TurnedKeys x = new TurnedKeys();
        x.look(1);
        sends(x, 0, 0, 3);
        dueDerived("c, p and PUBLIC(r) of the head", x, 1, 0, 1, 2, 3);
        takes("by p", x, 1, 1, 0);
        sends(x, 1, 4, 4);
        dueDerived("r is not known", x, 0, 4);
        x.look(0);
        dueDerived("r and the PUBLIC of the head", x, 1, 4);
    }

    private static void derivedNeedsTheRoot() {
        TurnedKeys x = answered(0, 0);
        sends(x, 0, 2, 2);
        takes("root", x, 1, 1, 2);
        sends(x, 1, 3, 3);
        takes("root", x, 0, 1, 3);
        x.look(0);
        x.look(1);
        dueDerived("all SECRETS of now, no earlier root", x, 0, 0, 1, 2, 3);
        sends(x, 0, 4, 4);
        sends(x, 1, 5, 5);
        dueDerived("by the ROOT and MINE of the looks", x, 1, 4, 5);
    }

    private static void derivedOfResentKeys() {
        TurnedKeys x = new TurnedKeys();
        sends(x, 0, 0, 0);
        x.back(0);
        x.look(0);
        dueDerived("the chain as it was", x, 1, 0);
        sends(x, 0, 1, 1);
        dueDerived("the same key, another letter", x, 1, 0, 1);
        takes("the same key", x, 1, 1, 1);
        takes("that key went", x, 1, -13, 0);
        due("each letter is another SECRET: count(1)", x.count(1), 6);
    }

    // Promise 6

    private static void opensWires() {
        TurnedKeys x = answered(1, 1);
        dueDerived("no look", x, 0, 0, 1, 2);
        x.look(1);
        dueDerived("left, gone, sent", x, 1, 0);
        dueDerived("left, gone, sent", x, 0, 1, 2);
        sends(x, 1, 3, 3);
        due("SEND: opens(3)", x.opens(3), 1);
        due("no wire: opens(-1)", x.opens(-1), TurnedKeys.NONE);
        due("no wire: opens(4)", x.opens(4), TurnedKeys.NONE);
        due("no wire", x.opens(Integer.MIN_VALUE), TurnedKeys.NONE);
        due("no wire", x.opens(Integer.MAX_VALUE), TurnedKeys.NONE);
    }

    // Promises 7 and 8

    private static void backAndKeep() {
        TurnedKeys x = answered(0, 0);
        due("keep(0)", x.keep(0), 1);
        sends(x, 0, 2, 4);
        dueEnd("went on", x, 0, 3, 1, 1, 0, 1, 1, 1);
        due("back(0)", x.back(0), 1);
        dueEnd("as it was kept", x, 0, 1, 0, 1, 0, 1, 0, 1);
        due("wires stay: count(0)", x.count(0), 5);
        due("SECRETS stay DRAWN: count(1)", x.count(1), 11);
        sends(x, 0, 5, 6);
        due("what is kept stays: back(0)", x.back(0), 1);
        dueEnd("as it was kept", x, 0, 1, 0, 1, 0, 1, 0, 1);
        dueEnd("the other end stays", x, 1, 1, 0, 1, 0, 1, 1, 1);
        sends(x, 0, 7, 7);
        due("keep(0)", x.keep(0), 1);
        sends(x, 0, 8, 8);
        due("kept last: back(0)", x.back(0), 1);
        dueEnd("as it was kept last", x, 0, 1, 1, 1, 0, 1, 1, 1);
        for (int e : NO_END) {
            due("back(" + e + ")", x.back(e), TurnedKeys.NONE);
            due("keep(" + e + ")", x.keep(e), TurnedKeys.NONE);
        }
    }

    private static void backToTheBeginning() {
        TurnedKeys x = answered(3, 3);
        due("back(1)", x.back(1), 1);
        dueEnd("the beginning", x, 1, 0, 0, 0, 0, 0, 0, 0);
        due("without THEIRS: send(1)", x.send(1), -5);
        takes("once more", x, 1, 1, 2, 3);
        due("back(0)", x.back(0), 1);
        dueEnd("the beginning", x, 0, 0, 0, 0, 0, 1, 1, 0);
        due("the first chain: send(0)", x.send(0), 5);
        takes("its key went", x, 1, 1, 5);
        takes("its key went", x, 1, -13, 0);
        due("agree()", x.agree(), 1);
        takes("of the root of the beginning", x, 0, 1, 4);
    }

    private static void keepHoldsLeftKeys() {
        TurnedKeys x = new TurnedKeys();
        sends(x, 0, 0, 4);
        takes("left", x, 1, 1, 3);
        x.keep(1);
        takes("left", x, 1, 1, 0, 1, 2, 4);
        dueEnd("none left", x, 1, 0, 0, 5, 0, 1, 0, 1);
        x.back(1);
        dueEnd("left as they were kept", x, 1, 0, 0, 4, 3, 1, 0, 1);
        due("left: look(1)", x.look(1), 11);
        takes("left again", x, 1, 1, 2, 1, 0, 4);
        x.back(1);
        takes("left once more", x, 1, 1, 0, 1, 2, 4);
    }

    // Promise 9

    private static void endTells() {
        TurnedKeys x = answered(4, 2);
        sends(x, 0, 6, 7);
        dueEnd("all", x, 0, 2, 5, 1, 0, 1, 1, 1);
        dueEnd("all", x, 1, 1, 0, 3, 2, 1, 1, 1);
        takes("all", x, 1, 1, 7);
        dueEnd("all", x, 1, 1, 0, 2, 5, 1, 0, 1);
        for (int what : new int[] {-1, 7, 8, Integer.MIN_VALUE, Integer.MAX_VALUE}) {
            due("end(0, " + what + ")", x.end(0, what), TurnedKeys.NONE);
            due("end(1, " + what + ")", x.end(1, what), TurnedKeys.NONE);
        }
        for (int e : NO_END) {
            dueEnd("no end", x, e, -1, -1, -1, -1, -1, -1, -1);
        }
    }

    // Promise 10

    private static void agreeTells() {
        TurnedKeys x = new TurnedKeys();
        due("at the beginning: agree()", x.agree(), 0);
        sends(x, 0, 0, 0);
        due("sent: agree()", x.agree(), 0);
        takes("agree", x, 1, 1, 0);
        due("taken: agree()", x.agree(), 1);
        sends(x, 0, 1, 1);
        due("the same chain: agree()", x.agree(), 1);
        sends(x, 1, 2, 2);
        due("answered: agree()", x.agree(), 0);
        takes("agree", x, 0, 1, 2);
        due("the answer is taken: agree()", x.agree(), 1);
        x.back(0);
        due("an end went back: agree()", x.agree(), 0);
        takes("agree", x, 0, 1, 2);
        due("the same way once more: agree()", x.agree(), 1);
        sends(x, 0, 3, 3);
        takes("agree", x, 1, 1, 3);
        due("on from there: agree()", x.agree(), 1);
    }

    // Promise 11

    private static void countTells() {
        TurnedKeys x = answered(2, 0);
        due("count(0)", x.count(0), 4);
        due("count(1)", x.count(1), 9);
        due("look gives, it draws nothing", x.look(0), 5);
        due("count(1)", x.count(1), 9);
        for (int what : new int[] {-1, 2, 3, Integer.MIN_VALUE, Integer.MAX_VALUE}) {
            due("count(" + what + ")", x.count(what), TurnedKeys.NONE);
        }
    }
}
