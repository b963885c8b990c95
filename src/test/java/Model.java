import java.math.BigInteger;
import java.util.ArrayDeque;
import java.util.ArrayList;
import java.util.Arrays;
import java.util.Deque;
import java.util.HashSet;
import java.util.LinkedHashMap;
import java.util.List;
import java.util.Map;
import java.util.Set;
import java.util.TreeSet;

/** A second, slow reading of the document, with the Java library, to hold LastName's answers against. */
final class Model {
    /** Who has which NAME (-1: OUTSIDE), and the HEAPS. */
    static final class Scene {
        List<Integer> has = new ArrayList<>();
        List<List<Integer>> heaps = new ArrayList<>();

        Scene copy() {
            Scene c = new Scene();
            c.has.addAll(has);
            for (List<Integer> h : heaps) {
                c.heaps.add(new ArrayList<>(h));
            }
            return c;
        }

        String key() {
            return has + "|" + heaps;
        }
    }

    interface Node {
        long worth(Map<String, Integer> names);
    }

    static final class Rules {
        Node take;
        Node fee;
        List<Node> bars = new ArrayList<>();
        List<int[]> goes = new ArrayList<>();
    }

    /** All that THE IMAGE keeps. */
    static final class State {
        Scene scene = new Scene();
        List<Boolean> born = new ArrayList<>();
        List<Boolean> lots = new ArrayList<>();
        List<Integer> fees = new ArrayList<>();
        List<Integer> counts = new ArrayList<>();
        List<Rules> texts = new ArrayList<>();
        int ruling = -1;
        int hour = 0;
        int x = 5;
        List<int[]> deeds = new ArrayList<>();
        List<int[]> row = new ArrayList<>();
        List<int[]> book = new ArrayList<>();

        State copy() {
            State c = new State();
            c.scene = scene.copy();
            c.born.addAll(born);
            c.lots.addAll(lots);
            c.fees.addAll(fees);
            c.counts.addAll(counts);
            c.texts.addAll(texts);
            c.ruling = ruling;
            c.hour = hour;
            c.x = x;
            c.deeds.addAll(deeds);
            c.row.addAll(row);
            c.book.addAll(book);
            return c;
        }
    }

    State s = new State();
    State kept = new State();
    List<Integer> tape = new ArrayList<>();
    int fault = -1;
    int place = -1;

    int people() {
        return s.born.size();
    }

    int gates() {
        return s.lots.size();
    }

    boolean one(int who) {
        return who >= 0 && who < people();
    }

    boolean isGate(int g) {
        return g >= 0 && g < gates();
    }

    int person(boolean inside) {
        if (people() == 8) {
            return -1;
        }
        s.scene.has.add(inside ? people() : -1);
        s.born.add(inside);
        s.fees.add(0);
        s.counts.add(0);
        return people() - 1;
    }

    int gate(boolean lot) {
        if (gates() == 3) {
            return -1;
        }
        s.lots.add(lot);
        s.scene.heaps.add(new ArrayList<>());
        return gates() - 1;
    }

    boolean hour(int h) {
        if (h < 0 || h > 23) {
            return false;
        }
        s.hour = h;
        return true;
    }

    int feed(int... words) {
        if (tape.size() > 280) {
            return -1;
        }
        for (int w : words) {
            for (byte b : java.nio.ByteBuffer.allocate(4).putInt(w).array()) {
                tape.add(b & 0xff);
            }
        }
        return tape.size();
    }

    int end(int n) {
        if (n < 0 || n > tape.size()) {
            return -1;
        }
        tape = new ArrayList<>(tape.subList(0, n));
        return n;
    }

    int text() {
        if (s.texts.size() == 4) {
            return -1;
        }
        Parser p = new Parser(tape);
        tape = new ArrayList<>();
        try {
            Rules r = p.all();
            fault = 0;
            place = -1;
            s.texts.add(r);
            return s.texts.size() - 1;
        } catch (Wrong w) {
            fault = w.what;
            place = w.where;
            return -1;
        }
    }

    int fault(int what) {
        if (fault < 0) {
            return -1;
        }
        return what == 0 ? fault : what == 1 ? place : -1;
    }

    boolean by(int t) {
        if (t < -1 || t >= s.texts.size()) {
            return false;
        }
        s.ruling = t;
        return true;
    }

    int gone(int t) {
        if (t < 0 || t >= s.texts.size()) {
            return -1;
        }
        int n = 0;
        for (int[] g : s.texts.get(t).goes) {
            if (go(g[0], g[1]) >= 0) {
                n++;
            }
        }
        return n;
    }

    Map<String, Integer> names(Scene c, int who, int gate) {
        Map<String, Integer> m = new LinkedHashMap<>();
        m.put("who", who);
        m.put("gate", gate);
        m.put("size", c.heaps.get(gate).size());
        m.put("hour", s.hour);
        m.put("in", c.has.get(who) < 0 ? 1 : 0);
        m.put("name", c.has.get(who));
        return m;
    }

    Rules rules() {
        return s.ruling < 0 ? null : s.texts.get(s.ruling);
    }

    boolean can(Scene c, int who, int gate) {
        if (!one(who) || !isGate(gate)) {
            return false;
        }
        if (c.has.get(who) < 0 && c.heaps.get(gate).isEmpty()) {
            return false;
        }
        if (rules() != null) {
            for (Node b : rules().bars) {
                if (b.worth(names(c, who, gate)) != 0) {
                    return false;
                }
            }
        }
        return true;
    }

    int fee(Scene c, int who, int gate) {
        if (rules() == null || rules().fee == null) {
            return 1;
        }
        long f = rules().fee.worth(names(c, who, gate));
        return (int) (f < 0 ? 0 : f > 999 ? 999 : f);
    }

    /** All that one GOING can come to, that can be: {NAME, scene}; of lots each NAME. */
    List<Object[]> outcomes(Scene c, int who, int gate) {
        List<Object[]> all = new ArrayList<>();
        if (!can(c, who, gate)) {
            return all;
        }
        int name = c.has.get(who);
        if (name >= 0) {
            Scene d = c.copy();
            d.heaps.get(gate).add(name);
            d.has.set(who, -1);
            all.add(new Object[] {name, d});
            return all;
        }
        List<Integer> heap = c.heaps.get(gate);
        if (s.lots.get(gate)) {
            for (int i = 0; i < heap.size(); i++) {
                all.add(new Object[] {heap.get(i), with(c, who, gate, i)});
            }
            return all;
        }
        long best = Long.MIN_VALUE;
        int at = -1;
        for (int i = 0; i < heap.size(); i++) {
            long v = i;
            if (rules() != null && rules().take != null) {
                Map<String, Integer> m = names(c, who, gate);
                m.put("place", i);
                m.put("name", heap.get(i));
                m.put("own", s.born.get(who) && heap.get(i) == who ? 1 : 0);
                v = rules().take.worth(m);
            }
            if (v >= best) {
                best = v;
                at = i;
            }
        }
        all.add(new Object[] {heap.get(at), with(c, who, gate, at)});
        return all;
    }

    static Scene with(Scene c, int who, int gate, int i) {
        Scene d = c.copy();
        d.has.set(who, d.heaps.get(gate).remove(i));
        return d;
    }

    boolean byLot(Scene c, int who, int gate) {
        return s.lots.get(gate) && c.has.get(who) < 0;
    }

    int draw(int m) {
        int v = s.x % m;
        s.x = (int) ((s.x * 191L + 43) % 30109);
        return v;
    }

    int go(int who, int gate) {
        List<Object[]> o = outcomes(s.scene, who, gate);
        if (o.isEmpty()) {
            return -1;
        }
        s.fees.set(who, s.fees.get(who) + fee(s.scene, who, gate));
        s.counts.set(who, s.counts.get(who) + 1);
        int i = byLot(s.scene, who, gate) ? draw(o.size()) : 0;
        s.scene = (Scene) o.get(i)[1];
        return (Integer) o.get(i)[0];
    }

    int of(int who, int what) {
        if (!one(who)) {
            return -2;
        }
        switch (what) {
            case 0: return s.scene.has.get(who);
            case 1: return s.fees.get(who);
            case 2: return s.counts.get(who);
            case 3: return s.scene.has.get(who) < 0 ? 0 : owes(s.scene.has.get(who));
            case 4: return s.deeds.stream().filter(d -> d[2] == who).mapToInt(d -> d[1]).sum();
            case 5: return s.born.get(who) ? 1 : 0;
            default: return -2;
        }
    }

    int called(int name) {
        return name < 0 ? -1 : s.scene.has.indexOf(name);
    }

    int heap(int gate, int i) {
        if (!isGate(gate)) {
            return -1;
        }
        List<Integer> h = s.scene.heaps.get(gate);
        return i == -1 ? h.size() : i < 0 || i >= h.size() ? -1 : h.get(i);
    }

    int deed(int name, int coins) {
        if (coins < 1 || coins > 999 || called(name) < 0 || s.deeds.size() == 20) {
            return -1;
        }
        s.deeds.add(new int[] {name, coins, called(name)});
        return s.deeds.size();
    }

    int owes(int name) {
        if (name < 0 || name > 7) {
            return -1;
        }
        return s.deeds.stream().filter(d -> d[0] == name).mapToInt(d -> d[1]).sum();
    }

    int row(int who, int gate) {
        if (who == -1) {
            s.row.clear();
            return 0;
        }
        if (!one(who) || !isGate(gate) || s.row.size() == 12) {
            return -1;
        }
        s.row.add(new int[] {who, gate});
        return s.row.size();
    }

    Scene last;

    int judge() {
        last = s.scene;
        for (int i = 0; i < s.row.size(); i++) {
            int[] g = s.row.get(i);
            if (byLot(last, g[0], g[1]) || outcomes(last, g[0], g[1]).isEmpty()) {
                return i;
            }
            last = (Scene) outcomes(last, g[0], g[1]).get(0)[1];
        }
        return -1;
    }

    int then(int who) {
        return !one(who) || judge() >= 0 ? -2 : last.has.get(who);
    }

    long chance(int who, int name, int what) {
        if (!one(who) || name < -1 || name > 7 || what < 0 || what > 1) {
            return -1;
        }
        if (s.row.stream().filter(g -> s.lots.get(g[1])).count() > 6) {
            return -1;
        }
        BigInteger[] sum = {BigInteger.ZERO, BigInteger.ONE};
        spread(s.scene, 0, BigInteger.ONE, who, name, sum);
        return sum[what].longValueExact();
    }

    void spread(Scene c, int i, BigInteger under, int who, int name, BigInteger[] sum) {
        if (i == s.row.size()) {
            if (c.has.get(who) == name) {
                BigInteger up = sum[0].multiply(under).add(sum[1]);
                BigInteger low = sum[1].multiply(under);
                BigInteger g = up.gcd(low);
                sum[0] = up.divide(g);
                sum[1] = low.divide(g);
            }
            return;
        }
        int[] g = s.row.get(i);
        List<Object[]> o = outcomes(c, g[0], g[1]);
        if (o.isEmpty()) {
            spread(c, i + 1, under, who, name, sum);
        }
        for (Object[] each : o) {
            spread((Scene) each[1], i + 1, under.multiply(BigInteger.valueOf(o.size())), who, name, sum);
        }
    }

    int line(boolean in, int name, int gate) {
        if (gate == -1) {
            s.book.clear();
            return 0;
        }
        if (s.book.size() == 6) {
            return -1;
        }
        if (name == -1) {
            if (s.book.stream().anyMatch(l -> l[1] == -1)) {
                return -1;
            }
        } else if (name < 0 || name > 7 || !isGate(gate)) {
            return -1;
        }
        s.book.add(new int[] {in ? 1 : 0, name, gate});
        return s.book.size();
    }

    /** Each way as a text of its GOINGS and NAMES, with its end. */
    Map<String, Scene> allWays() {
        Map<String, Scene> ways = new LinkedHashMap<>();
        ways.put("", s.scene);
        for (int[] l : s.book) {
            Map<String, Scene> more = new LinkedHashMap<>();
            for (Map.Entry<String, Scene> w : ways.entrySet()) {
                Scene c = w.getValue();
                for (int who = 0; who < people(); who++) {
                    for (int g = 0; g < gates(); g++) {
                        for (Object[] o : outcomes(c, who, g)) {
                            boolean so = l[0] == (c.has.get(who) < 0 ? 1 : 0) && l[2] == g && l[1] == (Integer) o[0];
                            if (so || l[1] == -1) {
                                more.put(w.getKey() + who + "by" + g + "as" + o[0] + ";", (Scene) o[1]);
                            }
                        }
                    }
                }
            }
            ways = more;
        }
        return ways;
    }

    int ways() {
        return allWays().size();
    }

    int may(int name) {
        if (name < 0 || name > 7) {
            return -1;
        }
        int bits = 0;
        for (Scene c : allWays().values()) {
            if (c.has.contains(name)) {
                bits |= 1 << c.has.indexOf(name);
            }
            for (List<Integer> h : c.heaps) {
                if (h.contains(name)) {
                    bits |= 256;
                }
            }
        }
        return bits;
    }

    int ask(int what) {
        Map<String, Scene> ways = allWays();
        if (what < 0 || what > 1 || ways.isEmpty() || people() == 0) {
            return -1;
        }
        int whom = -1;
        int least = Integer.MAX_VALUE;
        for (int who = 0; who < people(); who++) {
            Map<Integer, Integer> parts = new LinkedHashMap<>();
            for (Scene c : ways.values()) {
                parts.merge(c.has.get(who), 1, Integer::sum);
            }
            int most = parts.values().stream().max(Integer::compare).get();
            if (most < least) {
                least = most;
                whom = who;
            }
        }
        return what == 0 ? whom : least;
    }

    boolean goal(int goal, int a, int b, Scene c) {
        if (goal == 0) {
            return c.has.get(a) == b;
        }
        if (goal == 1) {
            return c.has.get(a).equals(s.scene.has.get(b)) && c.has.get(b).equals(s.scene.has.get(a));
        }
        for (int i = 0; i < people(); i++) {
            if (s.born.get(i) && c.has.get(i) != i) {
                return false;
            }
        }
        return true;
    }

    boolean canChange(int a, int b) {
        return one(a) && one(b) && a != b && s.scene.has.get(a) >= 0 && s.scene.has.get(b) >= 0;
    }

    /** The row; null: never; the one text "spent". */
    List<Integer> search(int goal, int a, int b, int set, boolean[] spent) {
        Set<String> seen = new HashSet<>();
        Deque<Object[]> queue = new ArrayDeque<>();
        seen.add(s.scene.key());
        if (goal(goal, a, b, s.scene)) {
            return new ArrayList<>();
        }
        queue.add(new Object[] {s.scene, new ArrayList<Integer>()});
        while (!queue.isEmpty()) {
            Object[] top = queue.remove();
            Scene c = (Scene) top[0];
            for (int who = 0; who < people(); who++) {
                for (int g = 0; g < gates(); g++) {
                    if ((set >> who & 1) == 0 || s.lots.get(g)) {
                        continue;
                    }
                    for (Object[] o : outcomes(c, who, g)) {
                        Scene d = (Scene) o[1];
                        if (!seen.add(d.key())) {
                            continue;
                        }
                        if (seen.size() == 3001) {
                            spent[0] = true;
                            return null;
                        }
                        @SuppressWarnings("unchecked")
                        List<Integer> row = new ArrayList<>((List<Integer>) top[1]);
                        row.add(10 * who + g);
                        if (goal(goal, a, b, d)) {
                            return row;
                        }
                        queue.add(new Object[] {d, row});
                    }
                }
            }
        }
        return null;
    }

    int fewest(int goal, int a, int b, int set, int k) {
        boolean fits = goal == 2 || goal == 0 && one(a) && b >= 0 && b <= 7 || goal == 1 && canChange(a, b);
        if (!fits || set < 0 || set >> people() != 0 || k < -1) {
            return -1;
        }
        boolean[] spent = new boolean[1];
        List<Integer> row = search(goal, a, b, set, spent);
        if (spent[0]) {
            return -2;
        }
        if (row == null) {
            return -1;
        }
        return k == -1 ? row.size() : k < row.size() ? row.get(k) : -1;
    }

    int third(int a, int b) {
        if (!canChange(a, b)) {
            return -1;
        }
        for (int c = 0; c < people(); c++) {
            if (c != a && c != b && search(1, a, b, 1 << a | 1 << b | 1 << c, new boolean[1]) != null) {
                return c;
            }
        }
        return -1;
    }

    int left(int gate, int who, int name) {
        if (!isGate(gate) || s.lots.get(gate) || !one(who) || name < -1 || name > 7) {
            return -1;
        }
        List<Integer> out = new ArrayList<>();
        for (int i = 0; i < people(); i++) {
            if (s.scene.has.get(i) < 0) {
                out.add(i);
            }
        }
        return out.size() > 6 ? -1 : orders(s.scene, gate, out, who, name);
    }

    int orders(Scene c, int gate, List<Integer> out, int who, int name) {
        if (out.isEmpty()) {
            return c.has.get(who) == name ? 1 : 0;
        }
        int n = 0;
        for (Integer o : out) {
            List<Integer> rest = new ArrayList<>(out);
            rest.remove(o);
            List<Object[]> r = outcomes(c, o, gate);
            n += orders(r.isEmpty() ? c : (Scene) r.get(0)[1], gate, rest, who, name);
        }
        return n;
    }

    int thief(int who, int n) {
        if (!one(who) || n < 0 || n > 4) {
            return -1;
        }
        TreeSet<Integer> owed = new TreeSet<>();
        List<Scene> all = new ArrayList<>(List.of(s.scene));
        for (int i = 0; i <= n; i++) {
            List<Scene> more = new ArrayList<>();
            for (Scene c : all) {
                if (c.has.get(who) >= 0) {
                    owed.add(owes(c.has.get(who)));
                }
                for (int g = 0; g < gates(); g++) {
                    if (!s.lots.get(g)) {
                        for (Object[] o : outcomes(c, who, g)) {
                            more.add((Scene) o[1]);
                        }
                    }
                }
            }
            all = more;
        }
        return owed.isEmpty() ? -1 : owed.first();
    }

    boolean seed(int v) {
        if (v < 0 || v > 9999) {
            return false;
        }
        s.x = v * 11 + 5;
        return true;
    }

    int days(int n) {
        if (n < 1 || n > 100 || people() == 0 || gates() == 0) {
            return -1;
        }
        int could = 0;
        for (int i = 0; i < n; i++) {
            int who = draw(people());
            int g = draw(gates());
            could += go(who, g) >= 0 ? 1 : 0;
        }
        return could;
    }

    int image() {
        kept = s.copy();
        return people();
    }

    int back() {
        s = kept.copy();
        return people();
    }

    int about(int what) {
        int inside = (int) s.scene.has.stream().filter(n -> n >= 0).count();
        int[] all = {people(), gates(), s.hour, s.texts.size(), s.ruling, s.deeds.size(), s.row.size(),
            s.book.size(), tape.size(), inside, s.x};
        return what < 0 || what >= all.length ? -2 : all[what];
    }

    static final class Wrong extends RuntimeException {
        private static final long serialVersionUID = 1L;
        final int what;
        final int where;

        Wrong(int what, int where) {
            super("fault " + what + " at " + where);
            this.what = what;
            this.where = where;
        }
    }

    /** Reads a TEXT straight off its bytes, into a tree. */
    static final class Parser {
        static final List<String> OF_TAKE = Arrays.asList("place", "name", "own", "who", "gate", "size", "hour");
        static final List<String> OF_GOING = Arrays.asList("who", "gate", "size", "hour", "in", "name");
        final String bytes;
        int at = 0;
        String token;
        int start;
        List<String> allowed;

        Parser(List<Integer> tape) {
            StringBuilder b = new StringBuilder();
            for (int i : tape) {
                b.append((char) i);
            }
            bytes = b.toString();
            next();
        }

        /** The TOKEN "" is the end; "?" is none. */
        void next() {
            while (at < bytes.length() && (bytes.charAt(at) == ' ' || bytes.charAt(at) == '\n')) {
                at++;
            }
            start = at;
            String rest = bytes.substring(at);
            for (String form : new String[] {"[a-zA-Z]+", "[0-9]+", "<=|>=", "[<>=#+*/%();-]"}) {
                java.util.regex.Matcher m = java.util.regex.Pattern.compile(form).matcher(rest);
                if (m.lookingAt()) {
                    token = m.group();
                    at += token.length();
                    return;
                }
            }
            token = rest.isEmpty() ? "" : "?";
        }

        Wrong wrong(int what) {
            return new Wrong(what, start);
        }

        Rules all() {
            Rules r = new Rules();
            for (int n = 1; !token.isEmpty(); n++) {
                String word = token;
                if (!Arrays.asList("take", "fee", "bars", "go").contains(word)) {
                    throw wrong(1);
                }
                if (word.equals("take") && r.take != null || word.equals("fee") && r.fee != null) {
                    throw wrong(4);
                }
                if (n > 20) {
                    throw wrong(6);
                }
                next();
                clause(r, word);
                eat(";");
            }
            return r;
        }

        void clause(Rules r, String word) {
            allowed = word.equals("take") ? OF_TAKE : OF_GOING;
            if (word.equals("take")) {
                r.take = sum(0);
            } else if (word.equals("fee")) {
                r.fee = sum(0);
            } else if (word.equals("bars")) {
                r.bars.add(either());
            } else {
                int who = number(7);
                eat("by");
                r.goes.add(new int[] {who, number(2)});
            }
        }

        void eat(String wanted) {
            if (!token.equals(wanted)) {
                throw wrong(1);
            }
            next();
        }

        int number(int most) {
            if (!token.matches("[0-9]+")) {
                throw wrong(1);
            }
            BigInteger v = new BigInteger(token);
            if (v.compareTo(BigInteger.valueOf(most)) > 0) {
                throw wrong(2);
            }
            next();
            return v.intValue();
        }

        Node either() {
            Node l = both();
            while (token.equals("or")) {
                next();
                Node a = l;
                Node b = both();
                l = n -> a.worth(n) != 0 || b.worth(n) != 0 ? 1 : 0;
            }
            return l;
        }

        Node both() {
            Node l = ask(0);
            while (token.equals("and")) {
                next();
                Node a = l;
                Node b = ask(0);
                l = n -> a.worth(n) != 0 && b.worth(n) != 0 ? 1 : 0;
            }
            return l;
        }

        void open(int depth) {
            if (depth == 8) {
                throw wrong(3);
            }
            next();
        }

        Node ask(int depth) {
            if (token.equals("not")) {
                open(depth);
                Node a = ask(depth + 1);
                return n -> a.worth(n) == 0 ? 1 : 0;
            }
            Node a = sum(depth);
            String sign = token;
            if (!Arrays.asList("<", "<=", ">", ">=", "=", "#").contains(sign)) {
                throw wrong(1);
            }
            next();
            Node b = sum(depth);
            return n -> {
                int c = Long.compare(a.worth(n), b.worth(n));
                boolean so = c < 0 ? "< <= #".contains(sign) && !sign.equals("=")
                    : c == 0 ? Arrays.asList("<=", ">=", "=").contains(sign) : Arrays.asList(">", ">=", "#").contains(sign);
                return so ? 1 : 0;
            };
        }

        static long cut(long v) {
            return Math.max(-1000000, Math.min(1000000, v));
        }

        Node sum(int depth) {
            Node l = product(depth);
            while (token.equals("+") || token.equals("-")) {
                int sign = token.equals("+") ? 1 : -1;
                next();
                Node a = l;
                Node b = product(depth);
                l = n -> cut(a.worth(n) + sign * b.worth(n));
            }
            return l;
        }

        Node product(int depth) {
            Node l = one(depth);
            while (token.equals("*") || token.equals("/") || token.equals("%")) {
                char sign = token.charAt(0);
                next();
                Node a = l;
                Node b = one(depth);
                l = n -> {
                    long p = a.worth(n);
                    long q = b.worth(n);
                    return sign == '*' ? cut(p * q) : q == 0 ? 0 : sign == '/' ? p / q : p - p / q * q;
                };
            }
            return l;
        }

        Node one(int depth) {
            if (token.matches("[0-9]+")) {
                int v = number(9999);
                return n -> v;
            }
            if (token.equals("(")) {
                open(depth);
                Node a = sum(depth + 1);
                eat(")");
                return a;
            }
            if (token.equals("-")) {
                open(depth);
                Node a = one(depth + 1);
                return n -> -a.worth(n);
            }
            String name = token;
            if (!OF_TAKE.contains(name) && !OF_GOING.contains(name)) {
                throw wrong(1);
            }
            if (!allowed.contains(name)) {
                throw wrong(5);
            }
            next();
            return n -> n.get(name);
        }
    }
}
