import java.util.ArrayList;
import java.util.Arrays;
import java.util.HashMap;
import java.util.HashSet;
import java.util.List;
import java.util.Map;
import java.util.Set;
import java.util.TreeMap;

/**
 * Long mixed runs, compared call by call with a model that follows the document's words as slowly
 * and plainly as can be: terms are texts, refusals are exceptions, and DERIVED is asked for from
 * the goal down instead of from the given up. It also fails if the runs miss an edge.
 */
public final class PlainModelTest {
    private static final int RUNS = 240;
    private static final int CALLS = 512;
    private static final int MOST_SHOWN = 20;
    private static final List<String> EDGES = Arrays.asList(
            "send -1", "send -5", "send on a chain", "send turns",
            "take -1", "take -11", "take -13 below NEXT", "take -13 N too far", "take -13 BEFORE too far",
            "take -14 on a turn", "take 1 by LEFT", "take 1 on the chain", "take 1 on a turn",
            "skip to BEFORE, five", "skip to N, five", "nine LEFT", "took with two skips",
            "look -1", "look with eight LEFT", "look 3",
            "derived -1", "derived 0", "derived 1", "opens -1", "opens 0", "opens 1",
            "back -1", "back at first", "back to what was kept", "keep -1", "keep with LEFT", "end -1",
            "agree 0", "agree 1", "count -1");

    private static final Map<String, Integer> seen = new TreeMap<>();
    private static int wrong = 0;

    public static void main(String[] args) {
        for (int run = 0; run < RUNS && wrong == 0; run++) {
            compare(run);
        }
        for (String edge : EDGES) {
            if (wrong == 0 && seen.getOrDefault(edge, 0) < 5) {
                wrong++;
                System.out.println("the runs met only " + seen.getOrDefault(edge, 0) + " of: " + edge);
            }
        }
        System.out.println(wrong == 0 ? "all answers are as due" : wrong + " answers are not as due");
        if (wrong != 0) {
            System.exit(1);
        }
    }

    private static void saw(String edge) {
        seen.merge(edge, 1, Integer::sum);
    }

    // The runs

    private static long dice;

    private static int roll(int sides) {
        dice = dice * 6364136223846793005L + 1442695040888963407L;
        return (int) ((dice >>> 33) % sides);
    }

    private static void compare(int run) {
        dice = 77777L * (run + 1);
        TurnedKeys x = new TurnedKeys();
        Model model = new Model();
        // Of 100: send, take, look, back, keep; what remains are questions.
        int[][] habits = {
            {30, 40, 1, 0, 0}, {40, 30, 1, 0, 0}, {24, 30, 2, 6, 8}, {25, 45, 4, 1, 1},
            {34, 20, 2, 2, 4}, {20, 25, 0, 12, 14}, {30, 50, 0, 0, 0}, {26, 34, 6, 4, 10}};
        int[] habit = habits[run % habits.length];
        StringBuilder told = new StringBuilder();
        for (int call = 0; call < CALLS; call++) {
            int[] next = nextCall(habit, model.wires.size());
            int got = answer(x, next);
            int want = model.answer(next);
            told.append(Arrays.toString(next)).append(" = ").append(want).append('\n');
            if (got != want) {
                wrong++;
                System.out.println("run " + run + ", call " + call + " answered " + got + ", due is " + want
                        + "; the calls (send take look derived opens back keep end agree count):\n"
                        + lastLines(told.toString()));
                return;
            }
        }
    }

    private static String lastLines(String text) {
        String[] lines = text.split("\n");
        int from = Math.max(0, lines.length - MOST_SHOWN);
        return String.join("\n", Arrays.copyOfRange(lines, from, lines.length));
    }

    private static int anyEnd() {
        return roll(60) == 0 ? new int[] {-1, 2, Integer.MIN_VALUE, Integer.MAX_VALUE}[roll(4)] : roll(2);
    }

    private static int anyWire(int wires) {
        int kind = roll(40);
        if (kind == 0) {
            return new int[] {-1, wires, Integer.MIN_VALUE, Integer.MAX_VALUE}[roll(4)];
        }
        return kind < 8 ? roll(wires + 1) : Math.max(0, wires - 1 - roll(10));
    }

    private static int[] nextCall(int[] habit, int wires) {
        int die = roll(100);
        for (int i = 0; i < habit.length; i++) {
            if (die < habit[i]) {
                int method = new int[] {0, 1, 2, 5, 6}[i];
                return new int[] {method, anyEnd(), method == 1 ? anyWire(wires) : 0};
            }
            die -= habit[i];
        }
        int method = new int[] {3, 4, 7, 8, 9}[roll(5)];
        if (method == 7) {
            return new int[] {7, anyEnd(), roll(9) - 1};
        }
        return new int[] {method, method == 9 ? roll(4) - 1 : anyWire(wires), 0};
    }

    private static int answer(TurnedKeys x, int[] call) {
        switch (call[0]) {
            case 0: return x.send(call[1]);
            case 1: return x.take(call[1], call[2]);
            case 2: return x.look(call[1]);
            case 3: return x.derived(call[1]);
            case 4: return x.opens(call[1]);
            case 5: return x.back(call[1]);
            case 6: return x.keep(call[1]);
            case 7: return x.end(call[1], call[2]);
            case 8: return x.agree();
            default: return x.count(call[1]);
        }
    }

    // The model

    /** A term; two are the same if their texts are. */
    private record Term(String kind, List<Term> parts, String text) {
        static Term of(String kind, Term... parts) {
            StringBuilder text = new StringBuilder(kind).append('(');
            for (Term part : parts) {
                text.append(part == null ? "-" : part.text).append(' ');
            }
            return new Term(kind, Arrays.asList(parts), text.append(')').toString());
        }

        static Term shared(Term s, Term t) {
            return s.text.compareTo(t.text) < 0 ? of("SHARED", s, t) : of("SHARED", t, s);
        }

        boolean same(Term other) {
            return other != null && text.equals(other.text);
        }
    }

    private record Left(Term open, int index, Term key) { }

    private record Wire(int from, int n, int before, Term open, Term sealed) {
        Term key() {
            return sealed.parts.get(0);
        }

        Term letter() {
            return sealed.parts.get(2).parts.get(0);
        }
    }

    private static final class Refused extends RuntimeException {
        private static final long serialVersionUID = 1L;
        final int why;

        Refused(int why) {
            this.why = why;
        }
    }

    private static final class Side {
        Term base, root, mine, theirs, send, receive;
        int n, before, next;
        List<Left> left = new ArrayList<>();

        Side copy() {
            Side s = new Side();
            s.base = base;
            s.root = root;
            s.mine = mine;
            s.theirs = theirs;
            s.send = send;
            s.receive = receive;
            s.n = n;
            s.before = before;
            s.next = next;
            s.left = new ArrayList<>(left);
            return s;
        }

        void skip(int to, String where) {
            if (to - next > 5) {
                saw("take -13 " + where + " too far");
                throw new Refused(-13);
            }
            if (to - next == 5) {
                saw("skip to " + where + ", five");
            }
            while (next < to) {
                left.add(new Left(theirs, next, Term.of("MIX6", receive, null)));
                if (left.size() == 9) {
                    saw("nine LEFT");
                    left.remove(0);
                }
                receive = Term.of("MIX7", receive, null);
                next++;
            }
        }

        Term keyOf(Wire wire) {
            for (Left l : left) {
                if (l.open.same(wire.open) && l.index == wire.n) {
                    left.remove(l);
                    saw("take 1 by LEFT");
                    return l.key;
                }
            }
            boolean skipped = false;
            boolean turned = false;
            if (!wire.open.same(theirs) || receive == null) {
                if (receive != null && wire.before > next) {
                    skip(wire.before, "BEFORE");
                    skipped = true;
                }
                Term shared = Term.shared(mine, wire.open.parts.get(0));
                receive = Term.of("MIX5", root, shared);
                root = Term.of("MIX4", root, shared);
                theirs = wire.open;
                next = 0;
                send = null;
                turned = true;
            }
            if (wire.n < next) {
                saw("take -13 below NEXT");
                throw new Refused(-13);
            }
            boolean twice = skipped && wire.n > next;
            skip(wire.n, "N");
            Term key = Term.of("MIX6", receive, null);
            receive = Term.of("MIX7", receive, null);
            next++;
            boolean fits = key.same(wire.key());
            saw("take " + (fits ? "1" : "-14") + (turned ? " on a turn" : " on the chain"));
            if (fits && twice) {
                saw("took with two skips");
            }
            return key;
        }
    }

    private static final class Model {
        final List<Wire> wires = new ArrayList<>();
        final List<Term> given = new ArrayList<>();
        final Side[] sides = new Side[2];
        final Side[] kept = new Side[2];
        final boolean[] wasKept = new boolean[2];
        int drawn = 0;

        Model() {
            Term c = draw();
            Term p = draw();
            Term r = draw();
            Term base = Term.of("PUBLIC", draw());
            Side zero = new Side();
            zero.base = base;
            zero.mine = r;
            zero.theirs = Term.of("PUBLIC", p);
            zero.root = Term.of("MIX4", c, Term.shared(r, p));
            zero.send = Term.of("MIX5", c, Term.shared(r, p));
            Side one = new Side();
            one.base = base;
            one.mine = p;
            one.root = c;
            sides[0] = zero;
            sides[1] = one;
            kept[0] = zero.copy();
            kept[1] = one.copy();
        }

        Term draw() {
            drawn++;
            return Term.of("SECRET" + drawn);
        }

        int answer(int[] call) {
            String[] names = {"send", "take", "look", "derived", "opens", "back", "keep", "end", "agree", "count"};
            int answered = answerOf(call);
            if (call[0] != 1 || answered == -1 || answered == -11) {
                saw(names[call[0]] + " " + answered);
            }
            return answered;
        }

        private int answerOf(int[] call) {
            boolean ofEnd = call[0] <= 2 || call[0] >= 5 && call[0] <= 7;
            if (ofEnd && (call[1] < 0 || call[1] > 1)) {
                return -1;
            }
            boolean ofWire = call[0] == 3 || call[0] == 4;
            if (ofWire && (call[1] < 0 || call[1] >= wires.size())) {
                return -1;
            }
            switch (call[0]) {
                case 0: return sent(call[1]);
                case 1: return taken(call[1], call[2]);
                case 2: return looked(sides[call[1]]);
                case 3: return isDerived(wires.get(call[1]).letter()) ? 1 : 0;
                case 4: return isDerived(wires.get(call[1]).key()) ? 1 : 0;
                case 5:
                    saw(wasKept[call[1]] ? "back to what was kept" : "back at first");
                    sides[call[1]] = kept[call[1]].copy();
                    return 1;
                case 6:
                    kept[call[1]] = sides[call[1]].copy();
                    wasKept[call[1]] = true;
                    if (!sides[call[1]].left.isEmpty()) {
                        saw("keep with LEFT");
                    }
                    return 1;
                case 7: return told(sides[call[1]], call[2]);
                case 8: return sides[0].root.same(sides[1].root) ? 1 : 0;
                default: return call[1] == 0 ? wires.size() : call[1] == 1 ? drawn : -1;
            }
        }

        private int sent(int e) {
            Side s = sides[e];
            if (s.send == null && s.theirs == null) {
                return -5;
            }
            saw(s.send == null ? "send turns" : "send on a chain");
            if (s.send == null) {
                s.before = s.n;
                s.n = 0;
                s.mine = draw();
                Term shared = Term.shared(s.mine, s.theirs.parts.get(0));
                s.send = Term.of("MIX5", s.root, shared);
                s.root = Term.of("MIX4", s.root, shared);
            }
            Term letter = draw();
            Term open = Term.of("PUBLIC", s.mine);
            Term head = Term.of("ROW" + e + (1 - e) + "," + s.n + "," + s.before, s.base, open);
            Term sealed = Term.of("SEALED", Term.of("MIX6", s.send, null), head, Term.of("ROW", letter));
            s.send = Term.of("MIX7", s.send, null);
            wires.add(new Wire(e, s.n, s.before, open, sealed));
            given.add(sealed);
            s.n++;
            return wires.size() - 1;
        }

        private int taken(int e, int w) {
            if (w < 0 || w >= wires.size()) {
                return -1;
            }
            if (wires.get(w).from == e) {
                return -11;
            }
            Side s = sides[e].copy();
            try {
                if (!s.keyOf(wires.get(w)).same(wires.get(w).key())) {
                    return -14;
                }
            } catch (Refused refused) {
                return refused.why;
            }
            sides[e] = s;
            return 1;
        }

        private int looked(Side s) {
            List<Term> gives = new ArrayList<>();
            for (Term term : Arrays.asList(s.base, s.root, s.mine, s.theirs, s.send, s.receive)) {
                if (term != null) {
                    gives.add(term);
                }
            }
            for (Left l : s.left) {
                gives.add(l.open);
                gives.add(l.key);
            }
            if (s.left.size() == 8) {
                saw("look with eight LEFT");
            }
            given.addAll(gives);
            return gives.size();
        }

        private static int told(Side s, int what) {
            switch (what) {
                case 0: return s.n;
                case 1: return s.before;
                case 2: return s.next;
                case 3: return s.left.size();
                case 4: return s.theirs == null ? 0 : 1;
                case 5: return s.send == null ? 0 : 1;
                case 6: return s.receive == null ? 0 : 1;
                default: return -1;
            }
        }

        private boolean isDerived(Term goal) {
            Set<String> parts = new HashSet<>();
            List<Term> shut = new ArrayList<>();
            for (Term term : given) {
                takeApart(term, parts, shut);
            }
            boolean more = true;
            while (more) {
                more = false;
                Map<String, Boolean> tried = new HashMap<>();
                for (Term sealed : new ArrayList<>(shut)) {
                    if (canMake(sealed.parts.get(0), parts, tried)) {
                        shut.remove(sealed);
                        takeApart(sealed.parts.get(2), parts, shut);
                        more = true;
                    }
                }
            }
            return canMake(goal, parts, new HashMap<>());
        }

        private static void takeApart(Term term, Set<String> parts, List<Term> shut) {
            if (!parts.add(term.text)) {
                return;
            }
            if (term.kind.startsWith("ROW")) {
                for (Term part : term.parts) {
                    takeApart(part, parts, shut);
                }
            } else if (term.kind.equals("SEALED")) {
                takeApart(term.parts.get(1), parts, shut);
                shut.add(term);
            }
        }

        private static boolean canMake(Term term, Set<String> parts, Map<String, Boolean> tried) {
            if (term == null || parts.contains(term.text)) {
                return true;
            }
            Boolean known = tried.get(term.text);
            if (known != null) {
                return known;
            }
            boolean can;
            if (term.kind.startsWith("SECRET")) {
                can = false;
            } else if (term.kind.equals("SHARED")) {
                Term s = term.parts.get(0);
                Term t = term.parts.get(1);
                can = canMake(s, parts, tried) && canMake(Term.of("PUBLIC", t), parts, tried)
                        || canMake(t, parts, tried) && canMake(Term.of("PUBLIC", s), parts, tried);
            } else {
                can = true;
                for (Term part : term.parts) {
                    can = can && canMake(part, parts, tried);
                }
            }
            tried.put(term.text, can);
            return can;
        }
    }
}
