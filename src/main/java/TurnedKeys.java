import java.util.ArrayList;

/**
 * Two ends, 0 and 1, that turn their keys with each answer and with each letter, and an attacker
 * who has all wires and whatever looks into the ends gave.
 */
public final class TurnedKeys {
    public static final int NONE = -1;

    private static final int DONE = 1;
    private static final int CANNOT_SEND = -5;
    private static final int SENT_BY_ITSELF = -11;
    private static final int OUT_OF_REACH = -13;
    private static final int WRONG_KEY = -14;

    private static final int CALL_LIMIT = 512;
    private static final int LEFT_LIMIT = 8;
    private static final int SKIP_LIMIT = 5;
    private static final int STEP_LIMIT = 1000000;

    private static final int SECRET = 0;
    private static final int PUBLIC = 1;
    private static final int SHARED = 2;
    private static final int SEALED = 3;
    // The kind of a MIX is the number that the document gives it.
    private static final int MIX_ROOT = 4;
    private static final int MIX_CHAIN = 5;
    private static final int MIX_KEY = 6;
    private static final int MIX_STEP = 7;

    private final Terms terms;
    private final End[] ends;
    private final End[] kept;
    private final End trial;
    private final ArrayList<Wire> wires;
    private int makingCalls;

    public TurnedKeys() {
        terms = new Terms();
        Term c = terms.draw();
        Term p = terms.draw();
        Term r = terms.draw();
        Term base = terms.publicOf(terms.draw());
        Term publicP = terms.publicOf(p);
        Term shared = terms.sharedOf(r, publicP);
        End zero = new End(base, terms.made(MIX_ROOT, c, shared), r);
        zero.theirs = publicP;
        zero.sendChain = terms.made(MIX_CHAIN, c, shared);
        End one = new End(base, c, p);
        ends = new End[] {zero, one};
        kept = new End[] {zero.copied(), one.copied()};
        trial = one.copied();
        wires = new ArrayList<Wire>();
    }

    public int send(int e) {
        End end = endAt(ends, e);
        if (end == null) {
            return NONE;
        }
        if (end.theirs == null) {
            return CANNOT_SEND;
        }
        if (!mayMakeMore()) {
            return NONE;
        }
        if (end.sendChain == null) {
            end.turnSending(terms);
        }
        Wire wire = end.sealedWire(e, terms.draw(), terms);
        wires.add(wire);
        giveWire(wire, end.base);
        return wires.size() - 1;
    }

    public int take(int e, int w) {
        End end = endAt(ends, e);
        Wire wire = wireAt(w);
        if (end == null || wire == null) {
            return NONE;
        }
        if (wire.sender == e) {
            return SENT_BY_ITSELF;
        }
        if (!mayMakeMore()) {
            return NONE;
        }
        // What is refused changes nothing: a copy goes ahead, the end follows only if it is taken.
        trial.become(end);
        Term key = trial.keyFor(wire, terms);
        if (key == null) {
            return OUT_OF_REACH;
        }
        if (key != wire.key) {
            return WRONG_KEY;
        }
        end.become(trial);
        return DONE;
    }

    public int look(int e) {
        End end = endAt(ends, e);
        if (end == null) {
            return NONE;
        }
        int given = terms.give(end.base) + terms.give(end.root) + terms.give(end.mine);
        given += terms.give(end.theirs) + terms.give(end.sendChain) + terms.give(end.receiveChain);
        for (int i = 0; i < end.leftCount; i++) {
            LeftKey leftKey = end.leftKeys[i];
            if (leftKey != null) {
                given += terms.give(leftKey.publicKey) + terms.give(leftKey.key);
            }
        }
        return given;
    }

    public int derived(int l) {
        Wire wire = wireAt(l);
        return wire == null ? NONE : oneIf(terms.hasDerived(wire.letter));
    }

    public int opens(int w) {
        Wire wire = wireAt(w);
        return wire == null ? NONE : oneIf(terms.hasDerived(wire.key));
    }

    public int back(int e) {
        return replace(endAt(ends, e), endAt(kept, e));
    }

    public int keep(int e) {
        return replace(endAt(kept, e), endAt(ends, e));
    }

    public int end(int e, int what) {
        End end = endAt(ends, e);
        if (end == null) {
            return NONE;
        }
        switch (what) {
            case 0:
                return end.sent;
            case 1:
                return end.before;
            case 2:
                return end.next;
            case 3:
                return end.leftCount;
            case 4:
                return oneIf(end.theirs != null);
            case 5:
                return oneIf(end.sendChain != null);
            case 6:
                return oneIf(end.receiveChain != null);
            default:
                return NONE;
        }
    }

    public int agree() {
        return oneIf(ends[0].root == ends[1].root);
    }

    public int count(int what) {
        if (what == 0) {
            return wires.size();
        }
        return what == 1 ? terms.drawn : NONE;
    }

    private static int oneIf(boolean holds) {
        return holds ? 1 : 0;
    }

    private static End endAt(End[] row, int e) {
        return e >= 0 && e < row.length ? row[e] : null;
    }

    private Wire wireAt(int w) {
        return w >= 0 && w < wires.size() ? wires.get(w) : null;
    }

    private static int replace(End old, End by) {
        if (old == null || by == null) {
            return NONE;
        }
        old.become(by);
        return DONE;
    }

    /** Only send and take make what stays, so they alone are held to the document's limit. */
    private boolean mayMakeMore() {
        if (makingCalls >= CALL_LIMIT) {
            return false;
        }
        makingCalls++;
        return true;
    }

    /** The head of a SEALED is open to all, so its two terms are given along with the wire. */
    private void giveWire(Wire wire, Term base) {
        terms.give(base);
        terms.give(wire.publicKey);
        terms.give(terms.made(SEALED, wire.key, wire.letter));
    }

    /** A term; the same term is always the same object, see Terms.made. Null stands for NOTHING. */
    private static final class Term {
        final int kind;
        final int place;
        final Term left;
        final Term right;
        final Term earlierUser;
        Term latestUser;
        Term publicTerm;
        boolean derived;

        Term(int kind, int place, Term left, Term right, Term earlierUser) {
            this.kind = kind;
            this.place = place;
            this.left = left;
            this.right = right;
            this.earlierUser = earlierUser;
        }
    }

    /** All terms that were made, each behind those it is made of, and which of them are DERIVED. */
    private static final class Terms {
        final ArrayList<Term> all = new ArrayList<Term>();
        int drawn;
        // Terms before this place were tried with all that is derived by now.
        int settled;

        Term draw() {
            drawn++;
            return added(SECRET, null, null, null);
        }

        Term publicOf(Term secret) {
            if (secret == null) {
                return null;
            }
            if (secret.publicTerm == null) {
                secret.publicTerm = added(PUBLIC, secret, null, null);
            }
            return secret.publicTerm;
        }

        /** SHARED(secret, t) for other being PUBLIC(t); the older secret first, as order is no matter. */
        Term sharedOf(Term secret, Term other) {
            if (secret == null || other == null || other.left == null) {
                return null;
            }
            // A SHARED may be derived by either PUBLIC, so both must stand before it.
            publicOf(secret);
            Term t = other.left;
            return secret.place < t.place ? made(SHARED, secret, t) : made(SHARED, t, secret);
        }

        /** The one term of this kind and these parts: looked for among those that use its younger part. */
        Term made(int kind, Term left, Term right) {
            Term part = younger(left, right);
            if (part == null) {
                return null;
            }
            for (Term user = part.latestUser; user != null; user = user.earlierUser) {
                if (user.kind == kind && user.left == left && user.right == right) {
                    return user;
                }
            }
            part.latestUser = added(kind, left, right, part.latestUser);
            return part.latestUser;
        }

        private Term added(int kind, Term left, Term right, Term earlierUser) {
            Term term = new Term(kind, all.size(), left, right, earlierUser);
            all.add(term);
            return term;
        }

        private static Term younger(Term a, Term b) {
            if (a == null || b == null) {
                return a == null ? b : a;
            }
            return a.place > b.place ? a : b;
        }

        /** The attacker has the term from now on; answers how many terms that gave (none for NOTHING). */
        int give(Term term) {
            if (term == null) {
                return 0;
            }
            if (!term.derived) {
                term.derived = true;
                settled = Math.min(settled, term.place + 1);
            }
            return 1;
        }

        boolean hasDerived(Term term) {
            settle();
            return isDerived(term);
        }

        /**
         * What a term can be made of stands before it, so one way through suffices; a body that was
         * opened stands before its SEALED, and give goes back to it.
         */
        private void settle() {
            for (int step = 0; step < STEP_LIMIT && settled < all.size(); step++) {
                Term term = all.get(settled);
                settled++;
                if (canBeMade(term)) {
                    give(term);
                }
                if (term.kind == SEALED && term.derived && isDerived(term.left)) {
                    give(term.right);
                }
            }
        }

        private static boolean canBeMade(Term term) {
            switch (term.kind) {
                case SECRET:
                    return false;
                case SHARED:
                    return sharedByOne(term.left, term.right) || sharedByOne(term.right, term.left);
                default:
                    return isDerived(term.left) && isDerived(term.right);
            }
        }

        private static boolean sharedByOne(Term secret, Term other) {
            return secret != null && other != null && secret.derived
                    && other.publicTerm != null && other.publicTerm.derived;
        }

        private static boolean isDerived(Term term) {
            return term == null || term.derived;
        }
    }

    /** A wire: what its head tells, and what is sealed in it by which key. */
    private static final class Wire {
        final int sender;
        final int index;
        final int before;
        final Term publicKey;
        final Term key;
        final Term letter;

        Wire(int sender, int index, int before, Term publicKey, Term key, Term letter) {
            this.sender = sender;
            this.index = index;
            this.before = before;
            this.publicKey = publicKey;
            this.key = key;
            this.letter = letter;
        }
    }

    private static final class LeftKey {
        final Term publicKey;
        final int index;
        final Term key;

        LeftKey(Term publicKey, int index, Term key) {
            this.publicKey = publicKey;
            this.index = index;
            this.key = key;
        }
    }

    private static final class End {
        Term base;
        Term root;
        Term mine;
        Term theirs;
        Term sendChain;
        int sent;
        int before;
        Term receiveChain;
        int next;
        final LeftKey[] leftKeys = new LeftKey[LEFT_LIMIT];
        int leftCount;

        End(Term base, Term root, Term mine) {
            this.base = base;
            this.root = root;
            this.mine = mine;
        }

        End copied() {
            End copy = new End(base, root, mine);
            copy.become(this);
            return copy;
        }

        void become(End other) {
            base = other.base;
            root = other.root;
            mine = other.mine;
            theirs = other.theirs;
            sendChain = other.sendChain;
            sent = other.sent;
            before = other.before;
            receiveChain = other.receiveChain;
            next = other.next;
            for (int i = 0; i < LEFT_LIMIT; i++) {
                leftKeys[i] = other.leftKeys[i];
            }
            leftCount = other.leftCount;
        }

        void turnSending(Terms terms) {
            before = sent;
            sent = 0;
            mine = terms.draw();
            Term shared = terms.sharedOf(mine, theirs);
            sendChain = terms.made(MIX_CHAIN, root, shared);
            root = terms.made(MIX_ROOT, root, shared);
        }

        Wire sealedWire(int self, Term letter, Terms terms) {
            Term key = terms.made(MIX_KEY, sendChain, null);
            Wire wire = new Wire(self, sent, before, terms.publicOf(mine), key, letter);
            sendChain = terms.made(MIX_STEP, sendChain, null);
            sent++;
            return wire;
        }

        /** The key that this end has for the wire, having gone on to it; null if it is out of reach. */
        Term keyFor(Wire wire, Terms terms) {
            Term leftKey = pulledLeftKey(wire.publicKey, wire.index);
            if (leftKey != null) {
                return leftKey;
            }
            if (wire.publicKey != theirs || receiveChain == null) {
                if (receiveChain != null && wire.before > next && !skipsTo(wire.before, terms)) {
                    return null;
                }
                turnReceiving(wire.publicKey, terms);
            }
            if (wire.index < next || !skipsTo(wire.index, terms)) {
                return null;
            }
            return steppedKey(terms);
        }

        private void turnReceiving(Term publicKey, Terms terms) {
            Term shared = terms.sharedOf(mine, publicKey);
            receiveChain = terms.made(MIX_CHAIN, root, shared);
            root = terms.made(MIX_ROOT, root, shared);
            theirs = publicKey;
            next = 0;
            sendChain = null;
        }

        private boolean skipsTo(int index, Terms terms) {
            if (index - next > SKIP_LIMIT) {
                return false;
            }
            for (int i = next; i < index; i++) {
                leave(new LeftKey(theirs, i, steppedKey(terms)));
            }
            return true;
        }

        private Term steppedKey(Terms terms) {
            Term key = terms.made(MIX_KEY, receiveChain, null);
            receiveChain = terms.made(MIX_STEP, receiveChain, null);
            next++;
            return key;
        }

        private void leave(LeftKey leftKey) {
            if (leftCount >= LEFT_LIMIT) {
                dropLeftKey(0);
            }
            leftKeys[leftCount] = leftKey;
            leftCount++;
        }

        private Term pulledLeftKey(Term publicKey, int index) {
            for (int i = 0; i < leftCount; i++) {
                LeftKey leftKey = leftKeys[i];
                if (leftKey != null && leftKey.publicKey == publicKey && leftKey.index == index) {
                    dropLeftKey(i);
                    return leftKey.key;
                }
            }
            return null;
        }

        private void dropLeftKey(int at) {
            for (int i = at; i + 1 < leftCount; i++) {
                leftKeys[i] = leftKeys[i + 1];
            }
            leftCount--;
            leftKeys[leftCount] = null;
        }
    }
}
