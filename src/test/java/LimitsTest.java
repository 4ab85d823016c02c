/** Runs up to the document's 512 calls are answered in full; beyond them no call throws or hangs. */
public final class LimitsTest {
    private static final int CALLS = 512;
    private static final int[] WILD = {0, 1, -1, 2, 6, 7, 8, 511, 512, Integer.MIN_VALUE, Integer.MAX_VALUE};

    private static int wrong = 0;

    private static void due(String call, int got, int want) {
        if (got != want) {
            wrong++;
            System.out.println(call + " answered " + got + ", due is " + want);
        }
    }

    public static void main(String[] args) {
        allSends();
        longChainIsDerived();
        pingPong();
        refusedTakes();
        wildArguments();
        System.out.println(wrong == 0 ? "all answers are as due" : wrong + " answers are not as due");
        if (wrong != 0) {
            System.exit(1);
        }
    }

    private static void allSends() {
        TurnedKeys x = new TurnedKeys();
        for (int call = 0; call < CALLS; call++) {
            due("send(0)", x.send(0), call);
        }
        goOn(x);
    }

    private static void longChainIsDerived() {
        TurnedKeys x = new TurnedKeys();
        due("look(0)", x.look(0), 5);
        for (int w = 0; w < CALLS - 5; w++) {
            due("send(0)", x.send(0), w);
        }
        due("derived(506)", x.derived(506), 1);
        due("opens(506)", x.opens(506), 1);
        due("count(1)", x.count(1), 4 + 507);
        due("end(0, 0)", x.end(0, 0), 507);
        goOn(x);
    }

    private static void pingPong() {
        TurnedKeys x = new TurnedKeys();
        due("look(0)", x.look(0), 5);
        int wires = 0;
        for (int call = 1; call + 2 <= CALLS - 3; call += 2) {
            due("send", x.send(wires % 2), wires);
            due("take", x.take(1 - wires % 2, wires), 1);
            wires++;
        }
        due("agree()", x.agree(), 1);
        due("derived of the last", x.derived(wires - 1), 0);
        due("derived of the first answer", x.derived(1), 1);
        goOn(x);
    }

    /** Each take tries another old key against another root, so each makes terms anew. */
    private static void refusedTakes() {
        TurnedKeys x = new TurnedKeys();
        int wires = 0;
        for (int turn = 0; turn < 100; turn++) {
            due("send", x.send(wires % 2), wires);
            due("take", x.take(1 - wires % 2, wires), 1);
            wires++;
        }
        for (int call = 200; call < CALLS; call++) {
            int w = (call - 200) % (wires - 2);
            due("take(" + (1 - w % 2) + ", " + w + ")", x.take(1 - w % 2, w), -14);
        }
        goOn(x);
    }

    private static void wildArguments() {
        TurnedKeys x = new TurnedKeys();
        callAll(x, 0, 0);
        for (int a : WILD) {
            for (int b : WILD) {
                callAll(x, a, b);
            }
        }
        goOn(x);
    }

    private static void goOn(TurnedKeys x) {
        for (int call = 0; call < 2000; call++) {
            callAll(x, WILD[call % WILD.length], WILD[call / WILD.length % WILD.length]);
            callAll(x, call % 2, call);
        }
    }

    private static void callAll(TurnedKeys x, int a, int b) {
        x.send(a);
        x.take(a, b);
        x.look(a);
        x.derived(b);
        x.opens(b);
        x.keep(a);
        x.back(a);
        x.end(a, b);
        x.agree();
        x.count(a);
    }
}
