import java.util.Random;

/** Long random runs, each call's answer held against the Model's. The seeds are fixed. */
public final class ModelTest {
    private static final int RUNS = 800;
    /** What an object answers behind 512 calls is free; one turn makes some hundred at most. */
    private static final int CALLS = 400;
    /** The Model is slow: so many dear calls a run. */
    private static final int HEAVY = 40;
    private static final String[] TAKE_NAMES = {"place", "name", "own", "who", "gate", "size", "hour"};
    private static final String[] GOING_NAMES = {"who", "gate", "size", "hour", "in", "name"};
    private static final String[] SPOILERS = {"in", "place", "own", "foo", "take", "fee", "bars", "go", "by", "or", "and",
        "not", "(", ")", ";", "-", "+", "*", "<=", "=", "<", "!", "\t", "10000", "9999", "8", "3", "99999999999", "Take"};

    private final Random random;
    private final LastName x = new LastName();
    private final Model m = new Model();
    private final Check check;
    private final int run;
    private int heavy = 0;
    private int made = 0;

    private ModelTest(int run, Check check) {
        this.run = run;
        this.check = check;
        this.random = new Random(7919L * run + 13);
    }

    public static void main(String[] args) {
        Check check = new Check();
        int from = args.length > 1 ? Integer.parseInt(args[0]) : 0;
        int to = args.length > 1 ? Integer.parseInt(args[1]) : RUNS;
        for (int run = from; run < to; run++) {
            ModelTest t = new ModelTest(run, check);
            t.begin();
            while (t.made < CALLS) {
                t.call();
            }
        }
        check.close("ModelTest");
    }

    private int up(int n) {
        return random.nextInt(n);
    }

    /** Mostly 0 .. n - 1, at times a little beside it. */
    private int about(int n) {
        if (up(12) == 0) {
            int[] odd = {-2, -1, n, n + 1, Integer.MAX_VALUE, Integer.MIN_VALUE, 100};
            return odd[up(odd.length)];
        }
        return up(Math.max(1, n));
    }

    private int who() {
        return about(m.people());
    }

    private int gateNumber() {
        return about(m.gates());
    }

    private void due(String call, long got, long want) {
        made++;
        check.due("run " + run + ": " + call, got, want);
    }

    private void begin() {
        int people = up(10) == 0 ? up(3) : 2 + up(7);
        int outside = up(3);
        for (int i = 0; i < people; i++) {
            boolean inside = up(4) >= outside;
            due("person", x.person(inside), m.person(inside));
        }
        int gates = up(12) == 0 ? 0 : 1 + up(3);
        int lots = up(3);
        for (int i = 0; i < gates; i++) {
            boolean lot = up(4) < lots;
            due("gate", x.gate(lot), m.gate(lot));
        }
        if (up(2) == 0) {
            int n = 1 + up(20);
            due("days(" + n + ")", x.days(n), m.days(n));
        }
        if (up(10) > 0) {
            due("image()", x.image(), m.image());
        }
    }

    private void call() {
        int kind = up(100);
        if (kind < 22) {
            int who = who();
            int gate = gateNumber();
            due("go(" + who + "," + gate + ")", x.go(who, gate), m.go(who, gate));
        } else if (kind < 30) {
            textCalls();
        } else if (kind < 48) {
            plainCalls();
        } else if (kind < 64) {
            rowCalls();
        } else if (kind < 80) {
            bookCalls();
        } else if (kind < 90) {
            searchCalls();
        } else {
            otherCalls();
        }
    }

    private void textCalls() {
        switch (up(4)) {
            case 0: {
                int t = up(5) == 0 ? about(4) : up(5) - 1;
                due("by(" + t + ")", x.by(t) ? 1 : 0, m.by(t) ? 1 : 0);
                break;
            }
            case 1: {
                int t = about(3);
                due("gone(" + t + ")", x.gone(t), m.gone(t));
                break;
            }
            default: {
                String text = up(6) == 0 ? babble() : text();
                feed(text);
                String call = "text of " + text;
                due(call, x.text(), m.text());
                due(call + " fault(0)", x.fault(0), m.fault(0));
                due(call + " fault(1)", x.fault(1), m.fault(1));
                due("fault(2)", x.fault(2), m.fault(2));
                if (m.s.texts.size() == 4 && up(2) == 0) {
                    due("back()", x.back(), m.back());
                }
            }
        }
    }

    private void feed(String text) {
        byte[] all = Check.bytes(text);
        due("end(0)", x.end(0), m.end(0));
        for (int i = 0; i < all.length; i += 20) {
            int[] w = Check.words(all, i);
            due("feed", x.feed(w[0], w[1], w[2], w[3], w[4]), m.feed(w));
        }
        due("end", x.end(all.length), m.end(all.length));
    }

    /** A CLAUSE's beginning and then TOKENS, or bytes that are none, in any order. */
    private String babble() {
        String[] begins = {"", "take ", "fee ", "bars ", "bars who=", "go ", "go 1 by", "fee 1;", "fee (1+"};
        StringBuilder b = new StringBuilder(begins[up(begins.length)]);
        for (int n = up(12); n > 0; n--) {
            int kind = up(12);
            if (kind == 0) {
                b.append((char) up(256));
            } else if (kind < 4) {
                b.append(GOING_NAMES[up(GOING_NAMES.length)]);
            } else if (kind < 6) {
                b.append(up(12));
            } else {
                b.append(SPOILERS[up(SPOILERS.length)]);
            }
            b.append(up(3) == 0 ? "" : up(5) == 0 ? "\n" : " ");
        }
        return b.toString();
    }

    private String text() {
        StringBuilder b = new StringBuilder();
        int clauses = up(8) == 0 ? 16 + up(8) : up(6);
        for (int i = 0; i < clauses && b.length() < 250; i++) {
            boolean brief = clauses > 8;
            int kind = up(brief ? 40 : 8);
            if (kind == 0) {
                b.append("take ").append(sum(TAKE_NAMES, 3)).append(';');
            } else if (kind == 1) {
                b.append("fee ").append(sum(GOING_NAMES, 3)).append(';');
            } else if (kind == 4 && !brief) {
                b.append("bars in=").append(up(2)).append(" and ").append(up(2) == 0 ? "name=" : "size<").append(up(4)).append(';');
            } else if (kind < 4 && !brief) {
                b.append("bars ").append(either()).append(up(9) == 0 ? " ;" : " and hour<").append(up(3)).append(";");
            } else {
                b.append(brief ? "go" : "go ").append(up(8)).append(brief ? "by" : " by ").append(up(3)).append(';');
            }
        }
        if (up(3) == 0 && b.length() > 0) {
            spoil(b);
        }
        if (up(12) == 0) {
            b.setLength(up(b.length() + 1));
        }
        if (b.length() > 300) {
            b.setLength(300);
        }
        return b.toString();
    }

    /** Puts something in the place of a TOKEN, or between two. */
    private void spoil(StringBuilder b) {
        String spoiler = " " + SPOILERS[up(SPOILERS.length)] + " ";
        int at = up(b.length());
        int behind = at;
        if (up(3) > 0) {
            while (at > 0 && Character.isLetterOrDigit(b.charAt(at - 1))) {
                at--;
            }
            while (behind < b.length() && Character.isLetterOrDigit(b.charAt(behind))) {
                behind++;
            }
        }
        b.replace(at, behind, spoiler);
        if (up(5) == 0) {
            String open = up(2) == 0 ? "(" : "-";
            b.insert(at, (up(2) == 0 ? "not " : "") + open.repeat(6 + up(4)));
        }
    }

    private String sum(String[] names, int depth) {
        StringBuilder b = new StringBuilder(one(names, depth));
        String[] signs = {"+", "-", "*", "/", "%", " - ", " + "};
        for (int n = up(3); n > 0; n--) {
            b.append(signs[up(signs.length)]).append(one(names, depth));
        }
        return b.toString();
    }

    private String one(String[] names, int depth) {
        int kind = up(10);
        if (kind < 5) {
            return names[up(names.length)];
        }
        if (kind < 8 || depth == 0) {
            return "" + (up(5) == 0 ? up(10000) : up(10));
        }
        return kind == 8 ? "(" + sum(names, depth - 1) + ")" : "-" + one(names, depth - 1);
    }

    private String either() {
        StringBuilder b = new StringBuilder(ask());
        for (int n = up(3); n > 0; n--) {
            b.append(up(2) == 0 ? " or " : " and ").append(ask());
        }
        return b.toString();
    }

    private String ask() {
        String[] signs = {"<", "<=", ">", ">=", "=", "#"};
        String nots = up(4) == 0 ? "not " : "";
        return nots + sum(GOING_NAMES, 1) + signs[up(6)] + sum(GOING_NAMES, 1);
    }

    private void plainCalls() {
        int a = about(9);
        int b = who();
        switch (up(8)) {
            case 0: due("of(" + b + "," + a + ")", x.of(b, a), m.of(b, a)); break;
            case 1: due("called(" + a + ")", x.called(a), m.called(a)); break;
            case 2: {
                int g = gateNumber();
                int i = up(4) == 0 ? -1 : a;
                due("heap(" + g + "," + i + ")", x.heap(g, i), m.heap(g, i));
                break;
            }
            case 3:
            case 6: {
                int coins = up(8) == 0 ? about(1001) : 1 + up(999);
                int name = up(4) > 0 && m.one(b) ? m.of(b, 0) : a;
                due("deed(" + name + "," + coins + ")", x.deed(name, coins), m.deed(name, coins));
                break;
            }
            case 4: due("owes(" + a + ")", x.owes(a), m.owes(a)); break;
            case 5: {
                int h = about(24);
                due("hour(" + h + ")", x.hour(h) ? 1 : 0, m.hour(h) ? 1 : 0);
                break;
            }
            default: {
                for (int what = -1; what <= 11; what++) {
                    due("about(" + what + ")", x.about(what), m.about(what));
                }
                for (int who = -1; who <= m.people(); who++) {
                    for (int what = -1; what <= 6; what++) {
                        due("of(" + who + "," + what + ")", x.of(who, what), m.of(who, what));
                    }
                }
            }
        }
    }

    /** A ROW of which most go by one GATE, so that there is something to draw. */
    private void writeRow() {
        due("row(empty)", x.row(-1, 0), m.row(-1, 0));
        int often = Math.max(m.s.lots.indexOf(true), 0);
        int length = up(3) == 0 ? 12 : 2 + up(8);
        int few = Math.min(m.people(), 2 + up(3));
        for (int i = 0; i < length; i++) {
            int who = up(few);
            int gate = up(3) > 0 ? often : up(m.gates());
            due("row(" + who + "," + gate + ")", x.row(who, gate), m.row(who, gate));
        }
    }

    private void rowCalls() {
        if (up(4) == 0 && m.people() > 0 && m.gates() > 0) {
            writeRow();
            int who = up(m.people());
            int most = heavy < HEAVY ? 8 : 0;
            heavy += 4;
            for (int name = -1; name < most; name++) {
                due("chance(" + who + "," + name + ",0)", x.chance(who, name, 0), m.chance(who, name, 0));
                due("chance(" + who + "," + name + ",1)", x.chance(who, name, 1), m.chance(who, name, 1));
            }
        }
        int kind = up(10);
        if (kind < 4) {
            int who = up(8) == 0 ? -1 : who();
            int gate = gateNumber();
            due("row(" + who + "," + gate + ")", x.row(who, gate), m.row(who, gate));
        } else if (kind == 4) {
            due("judge()", x.judge(), m.judge());
        } else if (kind == 5) {
            int who = who();
            due("then(" + who + ")", x.then(who), m.then(who));
        } else if (heavy < HEAVY) {
            heavy++;
            int who = who();
            int name = up(3) == 0 ? -1 : about(8);
            int what = about(2);
            due("chance(" + who + "," + name + "," + what + ")", x.chance(who, name, what), m.chance(who, name, what));
        }
    }

    /** A BOOK of GOINGS that can be, since one of random lines mostly leaves no WAYS. */
    private void writeBook() {
        due("line(empty)", x.line(false, 0, -1), m.line(false, 0, -1));
        Model.Scene c = m.s.scene;
        int lost = up(10);
        for (int tries = 0; tries < 40 && m.s.book.size() < 1 + up(6); tries++) {
            int who = up(m.people());
            int gate = up(m.gates());
            var all = m.outcomes(c, who, gate);
            if (all.isEmpty()) {
                continue;
            }
            Object[] o = all.get(up(all.size()));
            boolean in = c.has.get(who) < 0;
            int name = m.s.book.size() == lost ? -1 : (Integer) o[0];
            due("line(" + in + "," + name + "," + gate + ")", x.line(in, name, gate), m.line(in, name, gate));
            c = (Model.Scene) o[1];
        }
    }

    private void bookCalls() {
        if (up(3) == 0 && m.people() > 0 && m.gates() > 0) {
            writeBook();
        }
        int kind = up(8);
        if (kind < 4) {
            boolean in = up(2) == 0;
            int name = up(5) == 0 ? -1 : about(8);
            int gate = up(20) == 0 ? -1 : gateNumber();
            // Mostly a line that can be, else books soon leave no WAYS.
            if (up(3) > 0 && m.isGate(gate) && m.people() > 0) {
                in = m.s.scene.heaps.get(gate).size() > 0 && up(2) == 0;
                name = in ? m.s.scene.heaps.get(gate).get(up(m.s.scene.heaps.get(gate).size())) : m.of(up(m.people()), 0);
            }
            due("line(" + in + "," + name + "," + gate + ")", x.line(in, name, gate), m.line(in, name, gate));
        } else if (heavy < HEAVY) {
            heavy++;
            int name = about(8);
            due("ways()", x.ways(), m.ways());
            due("may(" + name + ")", x.may(name), m.may(name));
            for (int what = -1; what < 3; what++) {
                due("ask(" + what + ")", x.ask(what), m.ask(what));
            }
        }
    }

    private void searchCalls() {
        if (heavy >= HEAVY) {
            return;
        }
        heavy++;
        int a = who();
        int b = up(3) == 0 ? about(8) : who();
        if (up(3) == 0) {
            due("third(" + a + "," + b + ")", x.third(a, b), m.third(a, b));
            return;
        }
        int goal = about(3);
        int set = up(3) == 0 ? about(1 << m.people()) : (1 << m.people()) - 1;
        for (int k = -1; k < 4; k++) {
            String call = "fewest(" + goal + "," + a + "," + b + "," + set + "," + k + ")";
            int want = m.fewest(goal, a, b, set, k);
            due(call, x.fewest(goal, a, b, set, k), want);
            if (want < 0) {
                break;
            }
        }
    }

    private void otherCalls() {
        int who = who();
        switch (up(9)) {
            case 0: {
                int v = about(10000);
                due("seed(" + v + ")", x.seed(v) ? 1 : 0, m.seed(v) ? 1 : 0);
                break;
            }
            case 1: {
                int n = up(3) == 0 ? about(101) : 1 + up(5);
                due("days(" + n + ")", x.days(n), m.days(n));
                break;
            }
            case 2: due("image()", x.image(), m.image()); break;
            case 3: due("back()", x.back(), m.back()); break;
            case 4:
            case 5: {
                int n = about(5);
                due("thief(" + who + "," + n + ")", x.thief(who, n), m.thief(who, n));
                break;
            }
            case 6: {
                boolean flag = up(2) == 0;
                if (up(2) == 0) {
                    due("person", x.person(flag), m.person(flag));
                } else {
                    due("gate", x.gate(flag), m.gate(flag));
                }
                break;
            }
            default: {
                int g = gateNumber();
                int name = up(3) == 0 ? -1 : about(8);
                due("left(" + g + "," + who + "," + name + ")", x.left(g, who, name), m.left(g, who, name));
            }
        }
    }
}
