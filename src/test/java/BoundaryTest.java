import java.util.ArrayList;
import java.util.List;

/**
 * For each sentence of the document that names a boundary case, runs of its own. A run is told as
 * calls with the answers that are due: "take 1 3..5 = -13" is three takes, "send 0 x7" seven sends,
 * "end 1 = 0 0 6 5 1 0 1" all that end tells, "known 2" derived and opens of one number; a call
 * without an answer must only not be refused. MIN and MAX are the outermost ints.
 */
public final class BoundaryTest {
    private static String sentence = "";
    private static int wrong = 0;

    public static void main(String[] args) {
        calls();
        secretsAndTerms();
        derivedOfWhatIsGiven();
        derivedIsTheLeastSet();
        theBeginning();
        toSend();
        takeByLeftKeys();
        takeTurns();
        takeSkipsToBefore();
        takeSkipsToIndex();
        leftKeysAreEight();
        takeRefuses();
        whatIsRefusedChangesNothing();
        looks();
        promisesOneToThree();
        promisesFourToSix();
        promisesSevenAndEight();
        promisesNineToEleven();
        System.out.println(wrong == 0 ? "all answers are as due" : wrong + " answers are not as due");
        if (wrong != 0) {
            System.exit(1);
        }
    }

    // What it is

    private static void calls() {
        of("at most 512 calls: the last of them is answered in full");
        run("send 0 x511; send 0 = 511");
        run("send 0 x510; look 0; count 0 = 510");
        run("look 0; send 0 x510; derived 509 = 1");
        run("look 0; send 0 x510; opens 509 = 1");
        run("send 0 x256; keep 1; take 1 0..253; take 1 255 = 1");
        run("send 0 x6; take 1 0; take 1 0 x504 = -13; take 1 5 = 1");
    }

    // Terms

    private static void secretsAndTerms() {
        of("A SECRET is DRAWN, each another one");
        run("send 0; take 1 0; keep 1; send 1; back 1; send 1; take 0 1 = 1; take 0 2 = -14");
        run("send 0; take 1 0; keep 1; send 1; back 1; send 1; take 0 2 = 1; take 0 1 = -14");

        of("SHARED(t, s) is the same");
        run("send 0; take 1 0 = 1; send 1; take 0 1 = 1; send 0; take 1 2 = 1; agree = 1");

        of("Two terms are the same if they are made alike of the same ones");
        run("send 0; take 1 0; agree = 1; back 1; agree = 0; take 1 0; agree = 1");
        run("send 0; take 1 0; send 1; take 0 1; agree = 1; back 0; take 0 1; agree = 1");
        run("send 0 x2; take 1 1; back 1; take 1 1; take 1 0 = 1");
    }

    private static void derivedOfWhatIsGiven() {
        of("all that is GIVEN (the terms of all wires, ..): of wires alone no letter");
        run("send 0 x3; known 0..2 = 0; take 1 2; send 1; known 0..3 = 0; take 0 3; send 0; known 0..4 = 0");

        of("all that is GIVEN (.., all that looks gave): of wires before the look and behind it");
        run("send 0; look 1; send 0; known 0..1 = 1");
        run("look 1; send 0; known 0 = 1");
        run("send 0; look 1; take 1 0; known 0 = 1");
        run("send 0; look 1; back 1; keep 1; known 0 = 1");

        of("of a SEALED its head");
        run("look 1; send 0; known 0 = 1");
        run("send 0; take 1 0; look 0; send 1; known 1 = 1");

        of("and if its key is in it its body");
        run("send 0 x2; take 1 1; derived 0..1 = 0; look 1; opens 0 = 1; derived 0 = 1; opens 1 = 0; derived 1 = 0");

        of("SHARED(s, t), if s and PUBLIC(t) are in it, or t and PUBLIC(s)");
        run("look 1; send 0; take 1 0; known 0 = 1; send 1; known 1 = 0");
        run("send 0; take 1 0; send 1; look 0; known 1 = 1; known 0 = 0");
        run("send 0; take 1 0; send 1; look 1; take 0 1; send 0; known 2 = 1; known 0..1 = 0");
        run("send 0; take 1 0; look 1; send 1; known 1 = 0; look 1; known 1 = 1; known 0 = 0");

        of("MIX (NOTHING counts as in it)");
        run("look 0; send 0 x3; known 0..2 = 1");
        run("send 0; take 1 0; look 1; send 0 x3; known 1..3 = 1; known 0 = 0");
    }

    private static void derivedIsTheLeastSet() {
        of("the least set: a SEND chain does not tell the one before");
        run("send 0; look 0; known 0 = 0; send 0; known 1 = 1; known 0 = 0");

        of("the least set: a RECEIVE chain does not tell the one before");
        run("send 0 x3; take 1 0 1; look 1; known 0..1 = 0; known 2 = 1");

        of("the least set: a key does not tell the next one");
        run("send 0 x7; take 1 1; take 1 2..6; look 1; known 0 = 1; known 1..6 = 0; send 0; known 7 = 1");

        of("the least set: a ROOT does not tell the one before");
        run("send 0; take 1 0; send 1; take 0 1; look 0; look 1; known 0..1 = 0");

        of("the least set: a ROOT without a SECRET tells no chain");
        run("send 0; look 0; take 1 0; send 1; take 0 1; send 0; known 1 = 1; known 2 = 0; take 1 2; send 1; known 3 = 0");

        of("the least set: what one end has kept is not given by a look");
        run("send 0; take 1 0; look 1; known 0 = 0");
        run("send 0; keep 0; send 0; look 0; known 0..1 = 0; back 0; look 0; known 1 = 1; known 0 = 0");
    }

    private static void theBeginning() {
        of("At the beginning c, p, r and e are DRAWN");
        run("count 1 = 4");

        of("N, BEFORE, NEXT are 0, RECEIVE is NOTHING; THEIRS, SEND of end 0 are there, of end 1 not");
        run("end 0 = 0 0 0 0 1 1 0; end 1 = 0 0 0 0 0 0 0");

        of("End 0: ROOT MIX 4(c, SHARED(r, p)). End 1: ROOT c");
        run("agree = 0; send 0; agree = 0; take 1 0; agree = 1");

        of("End 0: SEND MIX 5(c, SHARED(r, p)). End 1: MINE p");
        run("send 0; take 1 0 = 1");
        run("look 1; send 0; known 0 = 1");
    }

    private static void toSend() {
        of("if SEND is NOTHING: BEFORE becomes N, N 0, MINE a SECRET drawn now");
        run("send 0 x3; take 1 0; send 1; take 0 3; end 0 = 3 0 1 0 1 0 1; count 1 = 9;"
                + "send 0; end 0 = 1 3 1 0 1 1 1; count 1 = 11");
        run("send 0; take 1 0; end 1 = 0 0 1 0 1 0 1; count 1 = 5; send 1; end 1 = 1 0 1 0 1 1 1; count 1 = 7");

        of("if SEND is not NOTHING, nothing of that: only a letter is drawn");
        run("count 1 = 4; send 0; end 0 = 1 0 0 0 1 1 0; count 1 = 5; send 0; end 0 = 2 0 0 0 1 1 0; count 1 = 6");
        run("send 0; take 1 0; send 1 x2; end 1 = 2 0 1 0 1 1 1; count 1 = 8; take 0 2; take 0 1 = 1");

        of("BEFORE is of the chain before alone, not of all before");
        run("send 0 x3; take 1 0..2; send 1; take 0 3; send 0 x2; take 1 4 5; send 1; take 0 6; end 0 1 = 3;"
                + "send 0; end 0 = 1 2 1 0 1 1 1; end 1 = 1 1 2 0 1 1 1");

        of("SEND MIX 5(ROOT, ..), then ROOT MIX 4 of the same");
        run("send 0; take 1 0; agree = 1; send 1; agree = 0; take 0 1; agree = 1");

        of("an end without THEIRS can't send");
        run("send 1 = -5; send 0; send 1 = -5; take 1 0; send 1 = 1; back 1; send 1 = -5");

        of("N and BEFORE of the head are as they were before this letter");
        run("send 0; take 1 0; end 1 = 0 0 1 0 1 0 1");
        run("send 0; take 1 0; send 1; take 0 1; send 0; take 1 2; end 1 = 1 0 1 0 1 0 1");

        of("SEND becomes MIX 7(SEND, NOTHING), N one more");
        run("send 0; send 0; take 1 0 = 1; take 1 1 = 1; end 0 0 = 2");
        run("send 0; look 0; known 0 = 0");
    }

    private static void takeByLeftKeys() {
        of("if a LEFT key has KEY and N, that is the key");
        run("send 0 x3; take 1 2; take 1 0 = 1; take 1 1 = 1");
        run("send 0 x6; take 1 5; take 1 4 2 0 3 1 = 1; end 1 = 0 0 6 0 1 0 1");

        of("a LEFT key that has N but not KEY is not that key");
        run("send 0 x2; take 1 1; send 1; take 0 2; send 0; take 1 3 = 1; end 1 = 1 0 1 1 1 0 1; take 1 0 = 1");

        of("a LEFT key that has KEY but not N is not that key");
        run("send 0 x4; take 1 1; take 1 3 = 1; end 1 = 0 0 4 2 1 0 1; take 1 2 0 = 1");
        run("send 0 x2; take 1 1; take 1 1 = -13; end 1 3 = 1");

        of("and it goes");
        run("send 0 x3; take 1 2; end 1 3 = 2; take 1 1; end 1 3 = 1; take 1 1 = -13; take 1 0; end 1 3 = 0; take 1 0 = -13");
        run("send 0 x2; take 1 1; send 1; take 0 2; send 0; take 1 3; take 1 0 = 1; take 1 0 = -14; end 1 3 = 0");
        run("send 0 x3; take 1 2; take 1 0; look 1; known 1 = 1; known 0 = 0");

        of("a wire that a LEFT key takes turns nothing and skips nothing");
        run("send 0 x2; take 1 1; send 1; end 1 = 1 0 2 1 1 1 1; take 1 0; end 1 = 1 0 2 0 1 1 1; agree = 0;"
                + "take 0 2; agree = 1");
        run("send 0 x3; take 1 1; send 1; take 0 3; send 0; take 1 4; end 1 = 1 0 1 2 1 0 1;"
                + "take 1 0 2; end 1 = 1 0 1 0 1 0 1; agree = 1");
    }

    private static void takeTurns() {
        of("if KEY is not THEIRS: THEIRS KEY, NEXT 0, SEND NOTHING");
        run("send 0; take 1 0; send 1; take 0 1; end 0 = 1 0 1 0 1 0 1; send 0; end 1 = 1 0 1 0 1 1 1;"
                + "take 1 2; end 1 = 1 0 1 0 1 0 1");

        of("if RECEIVE is NOTHING: it turns too");
        run("end 0 6 = 0; send 0; take 1 0; send 1; take 0 1 = 1; end 0 6 = 1; agree = 1");
        run("end 1 6 = 0; send 0; take 1 0 = 1; end 1 = 0 0 1 0 1 0 1; agree = 1");

        of("if KEY is THEIRS and there is a RECEIVE, it does not turn");
        run("send 0 x2; take 1 0; send 1; take 1 1 = 1; end 1 = 1 0 2 0 1 1 1; take 0 2 = 1; agree = 1");

        of("RECEIVE becomes MIX 5(ROOT, SHARED(MINE, k)), ROOT MIX 4 of the same");
        run("send 0; take 1 0; agree = 1; send 1; take 0 1 = 1; agree = 1; send 0; take 1 2 = 1; agree = 1");
        run("send 0; take 1 0; look 1; send 0; known 1 = 1; take 1 1 = 1");

        of("a turn leaves N and BEFORE as they are");
        run("send 0 x4; take 1 0; send 1 x2; take 0 4; end 0 = 4 0 1 0 1 0 1; send 0; take 1 6; end 1 0 = 2; end 1 1 = 0;"
                + "send 1; end 1 0 = 1; end 1 1 = 2");
    }

    private static void takeSkipsToBefore() {
        String twoAnswers = "; take 1 0; send 1; take 0 ";

        of("BEFORE is as NEXT: no skip");
        run("send 0; take 1 0; send 1; take 0 1; send 0; take 1 2 = 1; end 1 3 = 0");
        run("send 0 x3; take 1 0..2; send 1; take 0 3; send 0; take 1 4 = 1; end 1 = 1 0 1 0 1 0 1");

        of("BEFORE is below NEXT: no skip, and no refusal");
        run("send 0; keep 0; send 0 x2; take 1 0..2; send 1; back 0; take 0 3; send 0; end 0 1 = 1;"
                + "take 1 4 = 1; end 1 = 1 0 1 0 1 0 1; agree = 1");

        of("BEFORE is one above NEXT: it SKIPS to BEFORE");
        run("send 0 x2" + twoAnswers + "2; send 0; take 1 3 = 1; end 1 = 1 0 1 1 1 0 1; take 1 1 = 1");

        of("it SKIPS to BEFORE, not beyond");
        run("send 0 x3" + twoAnswers + "3; keep 0; send 0; take 1 4; end 1 3 = 2; take 1 1 2 = 1; end 1 3 = 0");

        of("if there is no RECEIVE, it does not SKIP to BEFORE");
        run("send 0 x7" + twoAnswers + "7; send 0; back 1; end 1 6 = 0; take 1 8 = -14");
        run("send 0 x6" + twoAnswers + "6; send 0; back 1; take 1 7 = -14; end 1 3 = 0");

        of("TO SKIP to BEFORE: five above NEXT is not refused");
        run("send 0 x6" + twoAnswers + "6; send 0; take 1 7 = 1; end 1 = 1 0 1 5 1 0 1; take 1 1..5 = 1");

        of("TO SKIP to BEFORE: (-13) if that is more than 5 above NEXT");
        run("send 0 x7" + twoAnswers + "7; send 0; take 1 8 = -13; take 1 1 = 1; take 1 8 = 1; end 1 3 = 5");
        run("send 0 x40" + twoAnswers + "40; send 0; take 1 41 = -13; end 1 3 = 0");

        of("what is skipped to BEFORE is left with the THEIRS of then");
        run("send 0 x2" + twoAnswers + "2; send 0 x2; take 1 4 = 1; end 1 = 1 0 2 2 1 0 1; take 1 1 = 1; take 1 3 = 1");
    }

    private static void takeSkipsToIndex() {
        of("N is as NEXT: no skip, NEXT one more");
        run("send 0 x2; take 1 0; end 1 = 0 0 1 0 1 0 1; take 1 1; end 1 = 0 0 2 0 1 0 1");

        of("N is one above NEXT: one LEFT key");
        run("send 0 x4; take 1 1; end 1 = 0 0 2 1 1 0 1; take 1 3; end 1 = 0 0 4 2 1 0 1; take 1 0 2 = 1");

        of("TO SKIP to N: five above NEXT is not refused");
        run("send 0 x6; take 1 5 = 1; end 1 = 0 0 6 5 1 0 1; take 1 0..4 = 1");
        run("send 0 x7; take 1 0; take 1 6 = 1; end 1 = 0 0 7 5 1 0 1; take 1 1..5 = 1");
        run("send 0; take 1 0; send 1 x6; take 0 6 = 1; end 0 = 1 0 6 5 1 0 1; take 0 1..5 = 1");

        of("TO SKIP to N: (-13) if that is more than 5 above NEXT");
        run("send 0 x7; take 1 6 = -13; take 1 5 = 1; take 1 6 = 1");
        run("send 0 x8; take 1 0; take 1 7 = -13; take 1 1 = 1; take 1 7 = 1; end 1 3 = 5");
        run("send 0 x60; take 1 59 = -13; end 1 = 0 0 0 0 0 0 0");
        run("send 0; take 1 0; send 1 x7; take 0 7 = -13; take 0 6 = 1");

        of("the five are counted anew from NEXT of the new chain");
        run("send 0 x6; take 1 0; send 1; take 0 6; send 0 x7; take 1 13 = -13; take 1 12 = 1; end 1 2 = 6");

        of("RECEIVE becomes MIX 7(RECEIVE, NOTHING), NEXT one more");
        run("send 0 x3; take 1 0..2 = 1; end 1 2 = 3; look 1; known 0..2 = 0; send 0; known 3 = 1");
    }

    private static void leftKeysAreEight() {
        // Five and three are left of one chain, so eight in all.
        String eight = "send 0 x10; take 1 5; take 1 9";

        of("up to eight LEFT keys: with eight none goes");
        run(eight + " = 1; end 1 = 0 0 10 8 1 0 1; take 1 0..4 = 1; take 1 6..8 = 1; end 1 3 = 0");

        of("the oldest one goes if there are nine");
        run(eight + "; send 0 x2; take 1 11 = 1; end 1 = 0 0 12 8 1 0 1; take 1 0 = -13;"
                + "take 1 1..4 = 1; take 1 6..8 = 1; take 1 10 = 1; end 1 3 = 0");
        run(eight + "; send 0 x6; take 1 15 = 1; end 1 3 = 8; take 1 0..4 = -13; take 1 6..8 = 1; take 1 10..14 = 1");

        of("one that goes makes room for one");
        run(eight + "; take 1 3; end 1 3 = 7; send 0 x2; take 1 11; end 1 3 = 8; take 1 0 = 1; take 1 3 = -13;"
                + "take 1 10 = 1");

        of("the oldest one is the one left first, of whatever chain");
        run("send 0 x6; take 1 5; send 1; take 0 6; send 0 x6; take 1 12; end 1 3 = 8;"
                + "take 1 0 1 = -14; take 1 2..4 = 1; take 1 7..11 = 1; end 1 3 = 0");

        of("two skips of one take: ten are left, the oldest two go");
        run("send 0 x6; take 1 0; send 1; take 0 6; send 0 x6; take 1 12 = 1; end 1 = 1 0 6 8 1 0 1;"
                + "take 1 1 2 = -14; take 1 3..5 = 1; take 1 7..11 = 1; end 1 3 = 0");

        of("a key that went is not given by a look");
        run(eight + "; send 0 x2; take 1 11; look 1 = 21; known 0 = 0; known 1..4 = 1; known 5 = 0; known 6..8 = 1;"
                + "known 9 = 0; known 10 = 1; known 11 = 0");
    }

    private static void takeRefuses() {
        of("(-13) if N is below NEXT");
        run("send 0; take 1 0 = 1; take 1 0 = -13");
        run("send 0 x3; take 1 0..2; take 1 0..2 = -13; end 1 2 = 3");
        run("send 0; take 1 0; send 1; take 0 1 = 1; take 0 1 = -13");

        of("(-14) if the wire's key is not that key: of a chain that is over");
        run("send 0; take 1 0; send 1; take 0 1; send 0; take 1 2; take 1 0 = -14; send 1; take 0 3; take 0 1 = -14");

        of("(-14) if the wire's key is not that key: of another way of the sender");
        run("send 0; take 1 0; keep 1; send 1; back 1; send 1; take 0 2 = 1; take 0 1 = -14; end 0 = 1 0 1 0 1 0 1");

        of("(-14) if the wire's key is not that key: of an end that went back");
        run("send 0; take 1 0; send 1; take 0 1; send 0; back 1; take 1 2 = -14; take 1 0 = 1; agree = 0");

        of("-13 goes before -14: the key is looked at last");
        run("send 0; take 1 0; keep 1; send 1; back 1; send 1 x7; take 0 1; take 0 8 = -13; take 0 7 = -14; take 0 2 = -14");
    }

    private static void whatIsRefusedChangesNothing() {
        of("What is refused changes nothing: send, -5");
        changesNothing("", "send 1 = -5");
        changesNothing("send 0 x2", "send 1 = -5");

        of("What is refused changes nothing: take, NONE and -11");
        changesNothing("send 0 x3; take 1 1; send 1", "take 1 4 = -1; take 2 0 = -1; take -1 0 = -1; take 1 -1 = -1");
        changesNothing("send 0 x3; take 1 1; send 1", "take 0 0..2 = -11; take 1 3 = -11");

        of("What is refused changes nothing: take, -13 as N is below NEXT");
        changesNothing("send 0 x4; take 1 2; send 1", "take 1 2 = -13");

        of("What is refused changes nothing: take, -13 as N is too far above NEXT");
        changesNothing("send 0 x9; take 1 1", "take 1 8 = -13");
        changesNothing("send 0 x7", "take 1 6 = -13");

        of("What is refused changes nothing: take, -13 as BEFORE is too far above NEXT");
        changesNothing("send 0 x9; take 1 1; send 1; take 0 9; send 0", "take 1 10 = -13");

        of("What is refused changes nothing: take, -13 behind a skip to BEFORE and a turn");
        changesNothing("send 0 x5; take 1 2; send 1; take 0 5; send 0 x7", "take 1 12 = -13");

        of("What is refused changes nothing: take, -13 behind a skip to BEFORE with eight LEFT keys");
        changesNothing("send 0 x11; take 1 5; take 1 9; send 1; take 0 11; send 0 x7", "take 1 18 = -13");

        of("What is refused changes nothing: take, -14 behind a turn");
        changesNothing("send 0 x3; take 1 1; send 1; take 0 3; send 0; take 1 4; send 1", "take 1 1 = -14");

        of("What is refused changes nothing: take, -14 behind a skip to N");
        changesNothing("send 0; take 1 0; keep 1; send 1 x2; back 1; send 1 x4; take 0 2", "take 0 6 = -14; take 0 5 = -14");

        of("What is refused changes nothing: take, -14 behind a skip to BEFORE");
        changesNothing("send 0 x3; take 1 0; send 1; take 0 3; keep 0; send 0; back 0; send 0 x2; take 1 4",
                "take 1 5 = -14; take 1 6 = -14");

        of("What is refused changes nothing: what there is not");
        changesNothing("send 0 x3; take 1 1; send 1", "look -1 2 MIN MAX = -1");
        changesNothing("send 0 x3; take 1 1; send 1", "back -1 2 MIN MAX = -1; keep -1 2 MIN MAX = -1");
        changesNothing("send 0 x3; take 1 1; send 1", "send -1 2 MIN MAX = -1");
        changesNothing("send 0 x3; take 1 1; send 1", "known -1 4 MIN MAX = -1; end 0 7 = -1; count 2 = -1");
    }

    private static void looks() {
        of("BASE, ROOT, MINE and all of THEIRS, SEND, RECEIVE that are not NOTHING");
        run("look 1 = 3");
        run("look 0 = 5");
        run("send 0; take 1 0; look 1 = 5; send 1; look 1 = 6; look 0 = 5; take 0 1; look 0 = 5; send 0; look 0 = 6");

        of("and its LEFT keys, each with its PUBLIC");
        run("send 0 x2; take 1 1; look 1 = 7; take 1 0; look 1 = 5");
        run("send 0 x10; take 1 5; take 1 9; look 1 = 21; send 1; look 1 = 22");

        of("a look gives ROOT and MINE");
        run("send 0; take 1 0; look 0; send 1; known 1 = 1");

        of("a look gives SEND");
        run("send 0; look 0; send 0; known 1 = 1");

        of("a look gives RECEIVE");
        run("send 0; take 1 0; look 1; send 0; known 1 = 1");

        of("a look gives the LEFT keys");
        run("send 0 x3; take 1 2; look 1; known 0..1 = 1; known 2 = 0");
        run("send 0 x3; take 1 1; send 1; take 0 3; send 0; take 1 4; look 1; known 0 2 = 1; known 1 = 0");

        of("what a look gave stays given");
        run("send 0; take 1 0; look 1; back 1; send 0; known 1 = 1");
        run("look 0; send 0; take 1 0; send 1; take 0 1; known 0 = 1; known 1 = 1");
    }

    // Promises

    private static void promisesOneToThree() {
        of("Promise 1: no wires");
        run("count 0 = 0; known 0 = -1; take 0 0 = -1; take 1 0 = -1");

        of("Promise 2: the number of its wire, 0, 1, .., of both ends together");
        run("send 0 = 0; send 0 = 1; take 1 0; send 1 = 2; send 0 = 3; send 1 = 4; count 0 = 5");

        of("Promise 2: a refused send takes no number");
        run("send 1 = -5; send 2 = -1; send 0 = 0; send -1 = -1; send 1 = -5; send 0 = 1");

        of("Promise 2: NONE: there is no such end");
        run("send -1 2 MIN MAX = -1; count 0 = 0; count 1 = 4");

        of("Promise 2: -5: it can't send");
        run("send 1 = -5; count 0 = 0; count 1 = 4");

        of("Promise 3: -11: it was sent by e");
        run("send 0; take 0 0 = -11; take 1 0; take 0 0 = -11; send 1; take 1 1 = -11; take 0 1; take 1 1 = -11");

        of("Promise 3: NONE: there is no such end");
        run("send 0; take -1 0 = -1; take 2 0 = -1; take MIN 0 = -1; take MAX 0 = -1; take 1 0 = 1");

        of("Promise 3: NONE: there is no such wire");
        run("send 0 x2; take 1 2 -1 MIN MAX = -1; take 0 2 -1 MIN MAX = -1; take 1 1 = 1; take 1 2 = -1");

        of("Promise 3: NONE: neither such an end nor such a wire");
        run("take 2 0 = -1; take -1 -1 = -1; send 0; take 2 1 = -1; take MAX MAX = -1; take MIN MIN = -1");
    }

    private static void promisesFourToSix() {
        of("Promise 4: how many terms it gave (each as often as it is there)");
        run("look 1 = 3; look 1 = 3; look 0 = 5; look 0 = 5");
        run("send 0 x3; take 1 2; look 1 = 9; look 1 = 9");

        of("Promise 4: NONE: there is no such end");
        run("look -1 2 MIN MAX = -1");

        of("Promise 5: NONE: there is no such letter");
        run("derived 0 -1 1 MIN MAX = -1; send 0; derived 0 = 0; derived -1 1 MIN MAX = -1; look 1; derived 0 = 1;"
                + "derived -1 1 MIN MAX = -1");

        of("Promise 6: NONE: there is no such wire");
        run("opens 0 -1 1 MIN MAX = -1; send 0; opens 0 = 0; opens -1 1 MIN MAX = -1; look 1; opens 0 = 1;"
                + "opens -1 1 MIN MAX = -1");

        of("Promises 5 and 6: asking gives the attacker nothing and draws nothing");
        run("send 0 x2; known 0..1 = 0; known 0..1 = 0; count 1 = 6; send 0; known 0..2 = 0");
    }

    private static void promisesSevenAndEight() {
        of("Promise 7: (at first: as at the beginning)");
        run("send 0 x3; back 0 = 1; end 0 = 0 0 0 0 1 1 0; send 0; take 1 3 = 1; take 1 0 = -13; take 1 1 = 1");
        run("send 0 x3; take 1 2; send 1; back 1 = 1; end 1 = 0 0 0 0 0 0 0; send 1 = -5; look 1 = 3; take 1 2 = 1");
        run("back 0 = 1; back 1 = 1; end 0 = 0 0 0 0 1 1 0; end 1 = 0 0 0 0 0 0 0; send 0 = 0; take 1 0 = 1; agree = 1");

        of("Promise 7: as it was when it was kept last");
        run("send 0; keep 0; send 0; keep 0; send 0; back 0; end 0 0 = 2; send 0; back 0; end 0 0 = 2; back 0; end 0 0 = 2");
        run("send 0 x4; take 1 2; keep 1; take 1 0 1 3; back 1; end 1 = 0 0 3 2 1 0 1; take 1 0 1 3 = 1; back 1;"
                + "take 1 1 0 3 = 1; end 1 = 0 0 4 0 1 0 1");

        of("Promise 7: as it was when it was kept last, ROOT, MINE and the chains with it");
        run("send 0; take 1 0; keep 1; send 1; take 0 1; send 0; take 1 2; agree = 1; back 1; agree = 0;"
                + "end 1 = 0 0 1 0 1 0 1; take 1 2 = -14; send 0; take 1 3 = -14; look 1 = 5");
        run("send 0; take 1 0; send 1; keep 1; take 0 1; send 0; take 1 2; back 1; end 1 = 1 0 1 0 1 1 1; take 1 2 = 1;"
                + "agree = 1");

        of("Promise 7: as it was when it was kept last, N, BEFORE and NEXT with it");
        run("send 0 x2; take 1 0; send 1; take 0 2; send 0; end 0 = 1 2 1 0 1 1 1; back 0; end 0 = 0 0 0 0 1 1 0");
        run("send 0 x2; take 1 0; send 1; take 0 2; send 0; keep 0; take 1 3; send 1; take 0 4; send 0 x3;"
                + "end 0 = 3 1 1 0 1 1 1; back 0; end 0 = 1 2 1 0 1 1 1; take 0 4 = 1; end 0 = 1 2 1 0 1 0 1");

        of("Promise 7: wires, what was DRAWN and what was GIVEN stay; so does the other end");
        run("send 0; take 1 0; send 1; back 1; count 0 = 2; count 1 = 7; end 0 = 1 0 0 0 1 1 0; take 0 1 = 1");
        run("look 0; send 0; back 0; back 1; known 0 = 1; send 0; known 1 = 1");

        of("Promise 7: NONE: there is no such end");
        run("send 0; back -1 2 MIN MAX = -1; end 0 0 = 1");

        of("Promise 8: What end e has is kept, and nothing of the other end");
        run("send 0; take 1 0; keep 0 = 1; back 1; end 1 = 0 0 0 0 0 0 0; send 0; back 0; end 0 0 = 1");
        run("send 0; take 1 0; keep 1 = 1; back 0; end 0 = 0 0 0 0 1 1 0; send 1; back 1; end 1 = 0 0 1 0 1 0 1");

        of("Promise 8: keeping changes nothing of what the end has");
        run("send 0 x3; take 1 1; keep 1 = 1; end 1 = 0 0 2 1 1 0 1; take 1 0 2 = 1; keep 0 = 1; end 0 = 3 0 0 0 1 1 0");

        of("Promise 8: NONE: there is no such end");
        run("send 0; keep -1 2 MIN MAX = -1; back 0; end 0 0 = 0");
    }

    private static void promisesNineToEleven() {
        of("Promise 9: each what of 0 to 6");
        run("send 0 x5; take 1 2; send 1 x2; take 0 6; send 0 x3; end 0 = 3 5 2 1 1 1 1; end 1 = 2 0 3 2 1 1 1");

        of("Promise 9: NONE: there is no such end");
        run("end -1 0 = -1; end 2 0 = -1; end MIN 0 = -1; end MAX 0 = -1; end 2 6 = -1; end -1 6 = -1; end 2 7 = -1");

        of("Promise 9: NONE for another what");
        run("end 0 -1 = -1; end 1 -1 = -1; end 0 7 = -1; end 1 7 = -1; end 0 MIN = -1; end 1 MAX = -1");

        of("Promise 10: both ends have the same ROOT (1, 0)");
        run("agree = 0; send 0; agree = 0; take 1 0; agree = 1; send 1; agree = 0; take 0 1; agree = 1; back 0; agree = 0");
        run("send 0 x7; take 1 6 = -13; agree = 0; take 1 5; agree = 1; take 1 0; agree = 1");

        of("Promise 11: wires");
        run("count 0 = 0; send 1 = -5; count 0 = 0; send 0; count 0 = 1; take 1 0; count 0 = 1; back 0; count 0 = 1");

        of("Promise 11: SECRETS that were DRAWN");
        run("count 1 = 4; send 1 = -5; count 1 = 4; send 0; count 1 = 5; take 1 0; count 1 = 5; send 1; count 1 = 7;"
                + "look 0; keep 0; back 0; take 0 0 = -11; count 1 = 7");

        of("Promise 11: NONE for another what");
        run("count -1 2 MIN MAX = -1; send 0; count -1 2 MIN MAX = -1");
    }

    // How runs are read

    private static void of(String words) {
        sentence = words;
    }

    private static void run(String calls) {
        perform(new TurnedKeys(), calls);
    }

    /** Two objects are led alike, but one hears the refused calls too: whatever follows, they answer alike. */
    private static void changesNothing(String before, String refused) {
        for (int way = 0; way < 5; way++) {
            TurnedKeys plain = new TurnedKeys();
            TurnedKeys refusing = new TurnedKeys();
            perform(plain, before);
            perform(refusing, before);
            perform(refusing, refused);
            if (!answersTo(refusing, way).equals(answersTo(plain, way))) {
                tell(refused + " behind: " + before, "as if it were changed", "no change");
                return;
            }
        }
    }

    private static List<Integer> answersTo(TurnedKeys x, int way) {
        List<Integer> answers = new ArrayList<>();
        addStates(x, answers);
        if (way == 1) {
            addLooks(x, answers);
        }
        if (way == 2) {
            addSends(x, answers);
        }
        if (way == 3) {
            answers.add(x.back(0));
            answers.add(x.back(1));
            addStates(x, answers);
        }
        for (int i = 0; i < x.count(0); i++) {
            int w = way == 4 ? x.count(0) - 1 - i : i;
            answers.add(x.take(0, w));
            answers.add(x.take(1, w));
            addStates(x, answers);
        }
        addSends(x, answers);
        addLooks(x, answers);
        return answers;
    }

    private static void addStates(TurnedKeys x, List<Integer> answers) {
        for (int what = 0; what < 7; what++) {
            answers.add(x.end(0, what));
            answers.add(x.end(1, what));
        }
        answers.add(x.agree());
        answers.add(x.count(0));
        answers.add(x.count(1));
    }

    private static void addSends(TurnedKeys x, List<Integer> answers) {
        for (int e = 0; e < 2; e++) {
            int w = x.send(e);
            answers.add(w);
            answers.add(x.take(1 - e, w));
        }
        addStates(x, answers);
    }

    private static void addLooks(TurnedKeys x, List<Integer> answers) {
        for (int e = 0; e < 2; e++) {
            answers.add(x.look(e));
            for (int w = 0; w < x.count(0); w++) {
                answers.add(x.derived(w));
                answers.add(x.opens(w));
            }
        }
    }

    private static void perform(TurnedKeys x, String calls) {
        for (String call : calls.split(";")) {
            if (!call.isBlank()) {
                performOne(x, call.trim(), calls);
            }
        }
    }

    private static void performOne(TurnedKeys x, String call, String calls) {
        String[] sides = call.split("=");
        String[] words = sides[0].trim().split(" +");
        int times = 1;
        List<Integer> numbers = new ArrayList<>();
        for (int i = 1; i < words.length; i++) {
            if (words[i].startsWith("x")) {
                times = Integer.parseInt(words[i].substring(1));
            } else {
                addNumbers(words[i], numbers);
            }
        }
        List<Integer> wants = new ArrayList<>();
        for (String want : sides.length == 1 ? new String[0] : sides[1].trim().split(" +")) {
            addNumbers(want, wants);
        }
        for (int time = 0; time < times; time++) {
            check(call, calls, words[0], answers(x, words[0], numbers), wants);
        }
    }

    private static void addNumbers(String word, List<Integer> numbers) {
        int dots = word.indexOf("..");
        int from = number(dots < 0 ? word : word.substring(0, dots));
        int to = dots < 0 ? from : number(word.substring(dots + 2));
        for (long number = from; number <= to; number++) {
            numbers.add((int) number);
        }
    }

    private static int number(String word) {
        if (word.equals("MIN")) {
            return Integer.MIN_VALUE;
        }
        return word.equals("MAX") ? Integer.MAX_VALUE : Integer.parseInt(word);
    }

    private static List<Integer> answers(TurnedKeys x, String name, List<Integer> numbers) {
        List<Integer> answers = new ArrayList<>();
        if (name.equals("agree")) {
            answers.add(x.agree());
        } else if (name.equals("end") && numbers.size() == 1) {
            for (int what = 0; what < 7; what++) {
                answers.add(x.end(numbers.get(0), what));
            }
        } else if (name.equals("end")) {
            answers.add(x.end(numbers.get(0), numbers.get(1)));
        } else if (name.equals("take")) {
            for (int w : numbers.subList(1, numbers.size())) {
                answers.add(x.take(numbers.get(0), w));
            }
        } else {
            for (int number : numbers) {
                addAnswers(x, name, number, answers);
            }
        }
        return answers;
    }

    private static void addAnswers(TurnedKeys x, String name, int number, List<Integer> answers) {
        switch (name) {
            case "send" -> answers.add(x.send(number));
            case "look" -> answers.add(x.look(number));
            case "derived" -> answers.add(x.derived(number));
            case "opens" -> answers.add(x.opens(number));
            case "known" -> {
                answers.add(x.derived(number));
                answers.add(x.opens(number));
            }
            case "back" -> answers.add(x.back(number));
            case "keep" -> answers.add(x.keep(number));
            case "count" -> answers.add(x.count(number));
            default -> throw new IllegalArgumentException("no such call: " + name);
        }
    }

    /** One answer that is due is due of each call; none that is due leaves all but refusals open. */
    private static void check(String call, String calls, String name, List<Integer> got, List<Integer> wants) {
        boolean question = name.equals("derived") || name.equals("opens") || name.equals("known")
                || name.equals("end") || name.equals("agree") || name.equals("count");
        if (got.isEmpty() || question && wants.isEmpty()) {
            throw new IllegalArgumentException("nothing is asked by: " + call);
        }
        for (int i = 0; i < got.size(); i++) {
            if (wants.isEmpty()) {
                if (got.get(i) < 0) {
                    tell(call + " of: " + calls, got.toString(), "not refused");
                    return;
                }
            } else if (!got.get(i).equals(wants.get(wants.size() == 1 ? 0 : i))) {
                tell(call + " of: " + calls, got.toString(), wants.toString());
                return;
            }
        }
    }

    private static void tell(String what, String got, String want) {
        wrong++;
        System.out.println("[" + sentence + "] " + what + "\n  answered " + got + ", due is " + want);
    }
}
