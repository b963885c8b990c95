import java.util.Arrays;

/**
 * People who leave their NAMES at GATES as they go out, and come in under one that hangs there.
 * The words in capitals are those of the document; all rows are made once, in the constructors, since a
 * run's room for objects is small.
 */
public final class LastName {
    public static final int NONE = -1;
    public static final int SPENT = -2;

    /** What of, then and about answer for what they don't know. */
    private static final int OTHER = -2;

    private static final int MOST_PEOPLE = 8;
    private static final int MOST_NAMES = 8;
    private static final int MOST_GATES = 3;
    private static final int MOST_TEXTS = 4;
    private static final int MOST_BYTES = 300;
    private static final int MOST_CLAUSES = 20;
    private static final int MOST_OPEN = 8;
    private static final int MOST_NUMBER = 9999;
    private static final int MOST_WORTH = 1000000;
    private static final int MOST_FEE = 999;
    private static final int MOST_DEEDS = 20;
    private static final int MOST_COINS = 999;
    private static final int MOST_ROW = 12;
    private static final int MOST_LINES = 6;
    private static final int MOST_STATES = 3000;
    private static final int MOST_CROWD = 6;
    private static final int MOST_THEFT = 4;
    private static final int MOST_LOTS = 6;
    private static final int MOST_DAYS = 100;
    private static final int MOST_SEED = 9999;
    private static final int FED_BYTES = 20;
    private static final int HOURS = 24;

    // Kinds of TOKENS; those of signs and words are at once what a compiled clause has for them.
    private static final int END = 0;
    private static final int BAD = 1;
    private static final int NUMBER = 2;
    private static final int LESS = 3;
    private static final int MORE = 4;
    private static final int SAME = 5;
    private static final int UNLIKE = 6;
    private static final int PLUS = 7;
    private static final int MINUS = 8;
    private static final int TIMES = 9;
    private static final int OVER = 10;
    private static final int REST = 11;
    private static final int OPEN = 12;
    private static final int CLOSE = 13;
    private static final int STOP = 14;
    private static final int AT_MOST = 15;
    private static final int AT_LEAST = 16;
    private static final int NEGATE = 17;
    private static final int TAKE = 20;
    private static final int FEE = 21;
    private static final int BARS = 22;
    private static final int GO = 23;
    private static final int BY = 24;
    private static final int OR = 25;
    private static final int AND = 26;
    private static final int NOT = 27;
    private static final int FIRST_NAME = 28;
    private static final int LAST_NAME = 35;

    /** The signs of one byte, in the order of their kinds from LESS on. */
    private static final String SIGNS = "<>=#+-*/%();";
    /** The words, each with a blank behind it, in the order of their kinds from TAKE on. */
    private static final String WORDS = "take fee bars go by or and not place name own who gate size hour in ";

    // The NAMES that a clause can ask for, by their place behind FIRST_NAME.
    private static final int PLACE = 0;
    private static final int NAME = 1;
    private static final int OWN = 2;
    private static final int WHO = 3;
    private static final int GATE = 4;
    private static final int SIZE = 5;
    private static final int HOUR = 6;
    private static final int IN = 7;
    private static final int NAMES_OF_CLAUSES = 8;
    private static final int NAMES_OF_TAKE = 0x7F;
    private static final int NAMES_OF_GOING = 0xFA;

    // In compiled clauses numbers stand as they are, all else above them.
    private static final int FIRST_SIGN_CODE = 20000;

    private static final int CANT_STAND = 1;
    private static final int NUMBER_NOT_TOLD = 2;
    private static final int TOO_DEEP = 3;
    private static final int TWICE = 4;
    private static final int NOT_OF_CLAUSE = 5;
    private static final int TOO_MANY = 6;

    // Columns of the ROW, THE BOOK and the DEEDS.
    private static final int ROW_WHO = 0;
    private static final int ROW_GATE = 1;
    private static final int LINE_IN = 0;
    private static final int LINE_NAME = 1;
    private static final int LINE_GATE = 2;
    private static final int DEED_NAME = 0;
    private static final int DEED_COINS = 1;
    private static final int DEED_DOER = 2;

    /** Bit of MAY for a NAME that hangs on a HEAP. */
    private static final int ON_HEAP = 256;

    private final World now = new World();
    private final World saved = new World();
    private final Law[] laws = new Law[MOST_TEXTS];
    private final Reader reader = new Reader();
    private final Goings goings;
    private final Odds odds;
    private final Ways book;
    private final Search search;
    private final Crowd crowd;

    public LastName() {
        for (int i = 0; i < laws.length; i++) {
            laws[i] = new Law();
        }
        goings = new Goings(now, laws);
        odds = new Odds(now, goings);
        book = new Ways(now, goings);
        search = new Search(now, goings);
        crowd = new Crowd(now, goings);
    }

    public int person(boolean inside) {
        return now.addPerson(inside);
    }

    public int gate(boolean lot) {
        return now.addGate(lot);
    }

    public boolean hour(int h) {
        if (h < 0 || h >= HOURS) {
            return false;
        }
        now.hour = h;
        return true;
    }

    public int feed(int a, int b, int c, int d, int e) {
        if (reader.length + FED_BYTES > MOST_BYTES) {
            return NONE;
        }
        reader.addFour(a);
        reader.addFour(b);
        reader.addFour(c);
        reader.addFour(d);
        reader.addFour(e);
        return reader.length;
    }

    public int end(int n) {
        if (n < 0 || n > reader.length) {
            return NONE;
        }
        reader.length = n;
        return n;
    }

    public int text() {
        int number = now.texts;
        if (number < 0 || number >= laws.length || !reader.readTape()) {
            return NONE;
        }
        // No TEXT that THE IMAGE has is written over: it never has more than there are now.
        laws[number].copyFrom(reader.draft);
        now.texts = number + 1;
        return number;
    }

    public int fault(int what) {
        if (!reader.hasRead) {
            return NONE;
        }
        if (what == 0) {
            return reader.fault;
        }
        return what == 1 ? reader.place : NONE;
    }

    public boolean by(int text) {
        if (text < NONE || text >= now.texts) {
            return false;
        }
        now.ruling = text;
        return true;
    }

    public int gone(int text) {
        if (text < 0 || text >= now.texts || text >= laws.length) {
            return NONE;
        }
        Law law = laws[text];
        int count = 0;
        for (int i = 0; i < law.size; i++) {
            if (law.kindOf(i) == GO && goings.doNow(law.fromOf(i), law.toOf(i)) != NONE) {
                count++;
            }
        }
        return count;
    }

    public int go(int who, int gate) {
        return goings.doNow(who, gate);
    }

    public int of(int who, int what) {
        if (!now.hasPerson(who)) {
            return OTHER;
        }
        switch (what) {
            case 0:
                return now.town.nameOf(who);
            case 1:
                return now.paid[who];
            case 2:
                return now.done[who];
            case 3:
                return now.owedUnder(now.town.nameOf(who));
            case 4:
                return now.didBy(who);
            case 5:
                return now.born[who] ? 1 : 0;
            default:
                return OTHER;
        }
    }

    public int called(int name) {
        return isName(name) ? now.town.holderOf(name) : NONE;
    }

    public int heap(int gate, int i) {
        if (!now.hasGate(gate)) {
            return NONE;
        }
        return i == NONE ? now.town.sizeOf(gate) : now.town.nameAt(gate, i);
    }

    public int deed(int name, int coins) {
        if (!isName(name) || coins < 1 || coins > MOST_COINS) {
            return NONE;
        }
        int doer = now.town.holderOf(name);
        return doer == NONE ? NONE : now.deeds.add(name, coins, doer);
    }

    public int owes(int name) {
        return isName(name) ? now.owedUnder(name) : NONE;
    }

    public int row(int who, int gate) {
        if (who == NONE) {
            now.row.size = 0;
            return 0;
        }
        if (!now.hasPerson(who) || !now.hasGate(gate)) {
            return NONE;
        }
        return now.row.add(who, gate, 0);
    }

    public int judge() {
        return goings.judgeRow();
    }

    public int then(int who) {
        if (!now.hasPerson(who) || goings.judgeRow() != NONE) {
            return OTHER;
        }
        return goings.tried.nameOf(who);
    }

    public long chance(int who, int name, int what) {
        if (!now.hasPerson(who) || !isNameOrNone(name) || what < 0 || what > 1) {
            return NONE;
        }
        if (odds.lotsOfRow() > MOST_LOTS) {
            return NONE;
        }
        odds.reckon(who, name);
        return what == 0 ? odds.upper : odds.lower;
    }

    public int line(boolean in, int name, int gate) {
        if (gate == NONE) {
            now.book.size = 0;
            return 0;
        }
        if (name == NONE) {
            return book.hasLost() ? NONE : now.book.add(0, NONE, NONE);
        }
        if (!isName(name) || !now.hasGate(gate)) {
            return NONE;
        }
        return now.book.add(in ? 1 : 0, name, gate);
    }

    public int ways() {
        book.reckon();
        return book.count;
    }

    public int may(int name) {
        if (!isName(name)) {
            return NONE;
        }
        book.reckon();
        return book.places[name];
    }

    public int ask(int what) {
        if (what < 0 || what > 1 || now.people == 0) {
            return NONE;
        }
        book.reckon();
        if (book.count == 0) {
            return NONE;
        }
        int whom = book.whomToLookAt();
        return what == 0 ? whom : book.greatestPart(whom);
    }

    public int fewest(int goal, int a, int b, int set, int k) {
        if (k < NONE || set < 0 || set >= 1 << now.people || !setGoal(goal, a, b)) {
            return NONE;
        }
        int found = search.find(set);
        if (found < 0) {
            return found;
        }
        return k == NONE ? search.lengthOf(found) : search.goingOf(found, k);
    }

    public int third(int a, int b) {
        if (!setGoal(1, a, b)) {
            return NONE;
        }
        for (int c = 0; c < now.people; c++) {
            if (c != a && c != b && search.find(1 << a | 1 << b | 1 << c) >= 0) {
                return c;
            }
        }
        return NONE;
    }

    /** False, if it is no GOAL. */
    private boolean setGoal(int goal, int a, int b) {
        search.wantNothing();
        if (goal == 2) {
            for (int who = 0; who < now.people; who++) {
                search.want(who, now.born[who] ? who : NONE);
            }
            return true;
        }
        if (goal == 0 && now.hasPerson(a) && isName(b)) {
            search.want(a, b);
            return true;
        }
        if (goal == 1 && a != b && now.isInside(a) && now.isInside(b)) {
            search.want(a, now.town.nameOf(b));
            search.want(b, now.town.nameOf(a));
            return true;
        }
        return false;
    }

    public int left(int gate, int who, int name) {
        if (!now.hasGate(gate) || now.lot[gate] || !now.hasPerson(who) || !isNameOrNone(name)) {
            return NONE;
        }
        if (now.people - now.countInside() > MOST_CROWD) {
            return NONE;
        }
        return crowd.countOrders(gate, who, name);
    }

    public int thief(int who, int n) {
        if (!now.hasPerson(who) || n < 0 || n > MOST_THEFT) {
            return NONE;
        }
        return crowd.leastOwed(who, n);
    }

    public boolean seed(int v) {
        if (v < 0 || v > MOST_SEED) {
            return false;
        }
        now.sow(v);
        return true;
    }

    public int days(int n) {
        if (n < 1 || n > MOST_DAYS || now.people == 0 || now.gates == 0) {
            return NONE;
        }
        int count = 0;
        for (int i = 0; i < n; i++) {
            int who = now.draw(now.people);
            int gate = now.draw(now.gates);
            if (goings.doNow(who, gate) != NONE) {
                count++;
            }
        }
        return count;
    }

    public int image() {
        saved.copyFrom(now);
        return now.people;
    }

    public int back() {
        now.copyFrom(saved);
        return now.people;
    }

    public int about(int what) {
        switch (what) {
            case 0:
                return now.people;
            case 1:
                return now.gates;
            case 2:
                return now.hour;
            case 3:
                return now.texts;
            case 4:
                return now.ruling;
            case 5:
                return now.deeds.size;
            case 6:
                return now.row.size;
            case 7:
                return now.book.size;
            case 8:
                return reader.length;
            case 9:
                return now.countInside();
            case 10:
                return now.x;
            default:
                return OTHER;
        }
    }

    private static boolean isName(int name) {
        return name >= 0 && name < MOST_NAMES;
    }

    private static boolean isNameOrNone(int name) {
        return name == NONE || isName(name);
    }

    /** Who has which NAME, and which NAMES hang at which GATE. */
    private static final class Town {
        // A NAME's six bits in a packed state: 0 there is none such, then who has it, then GATE and place.
        private static final int BITS = 6;
        private static final int MASK = 63;
        private static final int FIRST_HOLDER = 1;
        private static final int FIRST_HUNG = 9;
        private static final int LAST_HUNG = 32;

        private final int[] names = new int[MOST_PEOPLE];
        private final int[] sizes = new int[MOST_GATES];
        private final int[][] heaps = new int[MOST_GATES][MOST_NAMES];

        Town() {
            Arrays.fill(names, NONE);
        }

        void copyFrom(Town other) {
            System.arraycopy(other.names, 0, names, 0, MOST_PEOPLE);
            System.arraycopy(other.sizes, 0, sizes, 0, MOST_GATES);
            for (int gate = 0; gate < MOST_GATES; gate++) {
                System.arraycopy(other.heaps[gate], 0, heaps[gate], 0, MOST_NAMES);
            }
        }

        void nameAtBirth(int who, int name) {
            if (who >= 0 && who < names.length) {
                names[who] = name;
            }
        }

        int nameOf(int who) {
            return who >= 0 && who < names.length ? names[who] : NONE;
        }

        int sizeOf(int gate) {
            return gate >= 0 && gate < sizes.length ? sizes[gate] : 0;
        }

        int nameAt(int gate, int place) {
            return place >= 0 && place < sizeOf(gate) ? heaps[gate][place] : NONE;
        }

        int holderOf(int name) {
            for (int who = 0; who < names.length; who++) {
                if (names[who] == name) {
                    return who;
                }
            }
            return NONE;
        }

        /** OUT: the NAME that he leaves. */
        int leave(int who, int gate) {
            int name = nameOf(who);
            int size = sizeOf(gate);
            if (name == NONE || gate < 0 || gate >= MOST_GATES || size >= MOST_NAMES) {
                return NONE;
            }
            heaps[gate][size] = name;
            sizes[gate] = size + 1;
            names[who] = NONE;
            return name;
        }

        /** IN: the NAME at that place, with which he comes in. */
        int enter(int who, int gate, int place) {
            int name = nameAt(gate, place);
            if (name == NONE || who < 0 || who >= names.length || names[who] != NONE) {
                return NONE;
            }
            int last = sizes[gate] - 1;
            for (int i = place; i < last; i++) {
                heaps[gate][i] = heaps[gate][i + 1];
            }
            sizes[gate] = last;
            names[who] = name;
            return name;
        }

        /** All of it in one number, so that trials can go back to it and states can be told apart. */
        long packed() {
            long state = 0;
            for (int who = 0; who < MOST_PEOPLE; who++) {
                if (names[who] != NONE) {
                    state |= (long) (FIRST_HOLDER + who) << BITS * names[who];
                }
            }
            for (int gate = 0; gate < MOST_GATES; gate++) {
                for (int place = 0; place < sizes[gate]; place++) {
                    state |= (long) (FIRST_HUNG + gate * MOST_NAMES + place) << BITS * heaps[gate][place];
                }
            }
            return state;
        }

        void unpack(long state) {
            Arrays.fill(names, NONE);
            Arrays.fill(sizes, 0);
            for (int name = 0; name < MOST_NAMES; name++) {
                int where = (int) (state >>> BITS * name) & MASK;
                if (where >= FIRST_HUNG && where <= LAST_HUNG) {
                    int gate = (where - FIRST_HUNG) / MOST_NAMES;
                    heaps[gate][(where - FIRST_HUNG) % MOST_NAMES] = name;
                    sizes[gate]++;
                } else if (where >= FIRST_HOLDER && where < FIRST_HUNG) {
                    names[where - FIRST_HOLDER] = name;
                }
            }
        }
    }

    /** Up to so many rows of three numbers, in the order in which they were told. */
    private static final class Triples {
        private static final int COLUMNS = 3;

        private final int[] cells;
        private int size = 0;

        Triples(int most) {
            cells = new int[Math.max(0, most) * COLUMNS];
        }

        int add(int first, int second, int third) {
            int at = size * COLUMNS;
            if (at < 0 || at + COLUMNS > cells.length) {
                return NONE;
            }
            cells[at] = first;
            cells[at + 1] = second;
            cells[at + 2] = third;
            size++;
            return size;
        }

        int at(int index, int column) {
            boolean there = index >= 0 && index < size && column >= 0 && column < COLUMNS;
            return there ? cells[index * COLUMNS + column] : NONE;
        }

        void copyFrom(Triples other) {
            System.arraycopy(other.cells, 0, cells, 0, Math.min(other.cells.length, cells.length));
            size = other.size;
        }
    }

    /** All that THE IMAGE keeps. TEXTS are counted alone: those that it has are never written over. */
    private static final class World {
        private int people = 0;
        private int gates = 0;
        private int hour = 0;
        private int texts = 0;
        private int ruling = NONE;
        private int x = 5;
        private final boolean[] born = new boolean[MOST_PEOPLE];
        private final boolean[] lot = new boolean[MOST_GATES];
        private final int[] paid = new int[MOST_PEOPLE];
        private final int[] done = new int[MOST_PEOPLE];
        private final Town town = new Town();
        private final Triples deeds = new Triples(MOST_DEEDS);
        private final Triples row = new Triples(MOST_ROW);
        private final Triples book = new Triples(MOST_LINES);

        void copyFrom(World other) {
            people = other.people;
            gates = other.gates;
            hour = other.hour;
            texts = other.texts;
            ruling = other.ruling;
            x = other.x;
            for (int who = 0; who < MOST_PEOPLE; who++) {
                born[who] = other.born[who];
            }
            for (int gate = 0; gate < MOST_GATES; gate++) {
                lot[gate] = other.lot[gate];
            }
            System.arraycopy(other.paid, 0, paid, 0, MOST_PEOPLE);
            System.arraycopy(other.done, 0, done, 0, MOST_PEOPLE);
            town.copyFrom(other.town);
            deeds.copyFrom(other.deeds);
            row.copyFrom(other.row);
            book.copyFrom(other.book);
        }

        int addPerson(boolean inside) {
            if (people >= MOST_PEOPLE) {
                return NONE;
            }
            int who = people;
            born[who] = inside;
            paid[who] = 0;
            done[who] = 0;
            town.nameAtBirth(who, inside ? who : NONE);
            people++;
            return who;
        }

        int addGate(boolean ofLot) {
            if (gates >= MOST_GATES) {
                return NONE;
            }
            lot[gates] = ofLot;
            gates++;
            return gates - 1;
        }

        boolean hasPerson(int who) {
            return who >= 0 && who < people;
        }

        boolean hasGate(int gate) {
            return gate >= 0 && gate < gates;
        }

        boolean isInside(int who) {
            return hasPerson(who) && town.nameOf(who) != NONE;
        }

        int countInside() {
            int count = 0;
            for (int who = 0; who < people; who++) {
                if (isInside(who)) {
                    count++;
                }
            }
            return count;
        }

        int owedUnder(int name) {
            return coinsWhere(DEED_NAME, name);
        }

        int didBy(int who) {
            return coinsWhere(DEED_DOER, who);
        }

        private int coinsWhere(int column, int wanted) {
            int sum = 0;
            for (int i = 0; i < deeds.size; i++) {
                if (deeds.at(i, column) == wanted) {
                    sum += deeds.at(i, DEED_COINS);
                }
            }
            return sum;
        }

        void sow(int v) {
            x = v * 11 + 5;
        }

        int draw(int m) {
            int drawn = m > 0 ? x % m : 0;
            x = (x * 191 + 43) % 30109;
            return drawn;
        }
    }

    /** A TEXT that was read: its CLAUSES, sums and asks in the order in which they are reckoned. */
    private static final class Law {
        private final int[] code = new int[MOST_BYTES];
        private int codeLength = 0;
        private final int[] kinds = new int[MOST_CLAUSES];
        private final int[] from = new int[MOST_CLAUSES];
        private final int[] to = new int[MOST_CLAUSES];
        private int size = 0;
        private int take = NONE;
        private int fee = NONE;

        void clear() {
            codeLength = 0;
            size = 0;
            take = NONE;
            fee = NONE;
        }

        void copyFrom(Law other) {
            System.arraycopy(other.code, 0, code, 0, MOST_BYTES);
            System.arraycopy(other.kinds, 0, kinds, 0, MOST_CLAUSES);
            System.arraycopy(other.from, 0, from, 0, MOST_CLAUSES);
            System.arraycopy(other.to, 0, to, 0, MOST_CLAUSES);
            codeLength = other.codeLength;
            size = other.size;
            take = other.take;
            fee = other.fee;
        }

        void emit(int sign) {
            if (codeLength < code.length) {
                code[codeLength] = sign;
                codeLength++;
            }
        }

        /** From and to are ends in the code; of a go CLAUSE who and GATE. */
        void addClause(int kind, int start, int behind) {
            if (size >= MOST_CLAUSES) {
                return;
            }
            kinds[size] = kind;
            from[size] = start;
            to[size] = behind;
            if (kind == TAKE) {
                take = size;
            } else if (kind == FEE) {
                fee = size;
            }
            size++;
        }

        boolean hasAlready(int kind) {
            return kind == TAKE && take != NONE || kind == FEE && fee != NONE;
        }

        int kindOf(int clause) {
            return clause >= 0 && clause < size ? kinds[clause] : BAD;
        }

        int fromOf(int clause) {
            return clause >= 0 && clause < size ? from[clause] : 0;
        }

        int toOf(int clause) {
            return clause >= 0 && clause < size ? to[clause] : 0;
        }

        int codeAt(int i) {
            return i >= 0 && i < codeLength ? code[i] : 0;
        }
    }

    /** The tape, and what is read of it: its TOKENS, then a Law, up to its first FAULT. */
    private static final class Reader {
        private final int[] bytes = new int[MOST_BYTES];
        private int length = 0;
        private final int[] kinds = new int[MOST_BYTES + 1];
        private final int[] starts = new int[MOST_BYTES + 1];
        private final int[] numbers = new int[MOST_BYTES + 1];
        private int tokens = 0;
        private boolean hasRead = false;
        private int fault = 0;
        private int place = NONE;
        // The TOKEN that is come to, and its kind.
        private int at = 0;
        private int kind = END;
        private int allowedNames = 0;
        // What is read comes here first, so that a TEXT with a FAULT leaves nothing behind.
        private final Law draft = new Law();

        void addFour(int word) {
            for (int shift = 24; shift >= 0; shift -= 8) {
                if (length < bytes.length) {
                    bytes[length] = word >>> shift & 255;
                    length++;
                }
            }
        }

        /** Whether the tape is a TEXT; the tape is empty then. */
        boolean readTape() {
            hasRead = true;
            fault = 0;
            place = NONE;
            split();
            length = 0;
            at = 0;
            kind = kinds[0];
            draft.clear();
            for (int i = 0; i <= MOST_CLAUSES && fault == 0 && kind != END; i++) {
                int wrong = faultOfClause();
                if (wrong != 0) {
                    fail(wrong);
                } else if (kind == GO) {
                    readGo();
                } else {
                    readRule(kind);
                }
            }
            return fault == 0;
        }

        private void split() {
            tokens = 0;
            int next = 0;
            for (int i = 0; i < MOST_BYTES && next < length; i++) {
                int first = byteAt(next);
                if (isBlank(first)) {
                    next++;
                } else {
                    int behind = endOfToken(next);
                    addToken(kindOfToken(next, behind), next, isDigit(first) ? numberOf(next, behind) : 0);
                    next = behind;
                }
            }
            addToken(END, length, 0);
        }

        private void addToken(int what, int start, int number) {
            if (tokens < kinds.length) {
                kinds[tokens] = what;
                starts[tokens] = start;
                numbers[tokens] = number;
                tokens++;
            }
        }

        private int endOfToken(int start) {
            int first = byteAt(start);
            int behind = start + 1;
            if (isLetter(first)) {
                while (behind < length && isLetter(byteAt(behind))) {
                    behind++;
                }
            } else if (isDigit(first)) {
                while (behind < length && isDigit(byteAt(behind))) {
                    behind++;
                }
            } else if ((first == '<' || first == '>') && byteAt(behind) == '=') {
                behind++;
            }
            return behind;
        }

        private int kindOfToken(int start, int behind) {
            int first = byteAt(start);
            if (isLetter(first)) {
                return kindOfWord(start, behind);
            }
            if (isDigit(first)) {
                return NUMBER;
            }
            if (behind - start == 2) {
                return first == '<' ? AT_MOST : AT_LEAST;
            }
            int index = SIGNS.indexOf((char) first);
            return index < 0 ? BAD : LESS + index;
        }

        private int kindOfWord(int start, int behind) {
            int word = TAKE;
            int first = 0;
            for (int i = 0; i < WORDS.length(); i++) {
                if (WORDS.charAt(i) == ' ') {
                    if (i - first == behind - start && isWordAt(first, start, behind)) {
                        return word;
                    }
                    word++;
                    first = i + 1;
                }
            }
            return BAD;
        }

        private boolean isWordAt(int first, int start, int behind) {
            for (int i = start; i < behind; i++) {
                int j = first + i - start;
                if (j < 0 || j >= WORDS.length() || WORDS.charAt(j) != byteAt(i)) {
                    return false;
                }
            }
            return true;
        }

        /** One above the greatest NUMBER stands for all that are greater. */
        private int numberOf(int start, int behind) {
            int number = 0;
            for (int i = start; i < behind; i++) {
                number = Math.min(number * 10 + byteAt(i) - '0', MOST_NUMBER + 1);
            }
            return number;
        }

        private int byteAt(int i) {
            return i >= 0 && i < length ? bytes[i] : 0;
        }

        private static boolean isBlank(int sign) {
            return sign == 32 || sign == 10;
        }

        private static boolean isLetter(int sign) {
            return sign >= 'a' && sign <= 'z' || sign >= 'A' && sign <= 'Z';
        }

        private static boolean isDigit(int sign) {
            return sign >= '0' && sign <= '9';
        }

        private void fail(int what) {
            if (fault == 0) {
                fault = what;
                place = starts[at];
            }
        }

        /** Comes to the next TOKEN; behind a FAULT to none. */
        private void step() {
            if (fault == 0 && at + 1 < tokens) {
                at++;
                kind = kinds[at];
            }
        }

        /** What is wrong with a CLAUSE that begins with this TOKEN: 0 nothing. */
        private int faultOfClause() {
            if (kind < TAKE || kind > GO) {
                return CANT_STAND;
            }
            if (draft.hasAlready(kind)) {
                return TWICE;
            }
            return draft.size >= MOST_CLAUSES ? TOO_MANY : 0;
        }

        private void readGo() {
            step();
            int who = readNumber(MOST_PEOPLE - 1);
            expect(BY);
            int gate = readNumber(MOST_GATES - 1);
            expect(STOP);
            draft.addClause(GO, who, gate);
        }

        private void readRule(int word) {
            step();
            int from = draft.codeLength;
            allowedNames = word == TAKE ? NAMES_OF_TAKE : NAMES_OF_GOING;
            if (word == BARS) {
                readEither();
            } else {
                readSum(0);
            }
            expect(STOP);
            draft.addClause(word, from, draft.codeLength);
        }

        private int readNumber(int most) {
            int number = numbers[at];
            if (kind != NUMBER) {
                fail(CANT_STAND);
            } else if (number > most) {
                fail(NUMBER_NOT_TOLD);
            }
            step();
            return number;
        }

        private void expect(int wanted) {
            if (kind != wanted) {
                fail(CANT_STAND);
            }
            step();
        }

        private void readEither() {
            boolean more = true;
            for (int i = 0; i < MOST_BYTES && more; i++) {
                readAsk(0);
                for (int j = 0; j < MOST_BYTES && fault == 0 && kind == AND; j++) {
                    step();
                    readAsk(0);
                    draft.emit(FIRST_SIGN_CODE + AND);
                }
                if (i > 0) {
                    draft.emit(FIRST_SIGN_CODE + OR);
                }
                more = fault == 0 && kind == OR;
                if (more) {
                    step();
                }
            }
        }

        // How many of ( not and - are open around is handed on, so that the recursion ends with the 9th.

        private void readAsk(int open) {
            if (kind == NOT) {
                if (opens(open)) {
                    readAsk(open + 1);
                    draft.emit(FIRST_SIGN_CODE + NOT);
                }
                return;
            }
            readSum(open);
            int sign = kind;
            if (!compares(sign)) {
                fail(CANT_STAND);
            }
            step();
            readSum(open);
            draft.emit(FIRST_SIGN_CODE + sign);
        }

        private void readSum(int open) {
            readProduct(open);
            for (int i = 0; i < MOST_BYTES && fault == 0 && (kind == PLUS || kind == MINUS); i++) {
                int sign = kind;
                step();
                readProduct(open);
                draft.emit(FIRST_SIGN_CODE + sign);
            }
        }

        private void readProduct(int open) {
            readOne(open);
            for (int i = 0; i < MOST_BYTES && fault == 0 && kind >= TIMES && kind <= REST; i++) {
                int sign = kind;
                step();
                readOne(open);
                draft.emit(FIRST_SIGN_CODE + sign);
            }
        }

        private void readOne(int open) {
            if (kind == NUMBER) {
                draft.emit(readNumber(MOST_NUMBER));
            } else if (kind == OPEN) {
                if (opens(open)) {
                    readSum(open + 1);
                    expect(CLOSE);
                }
            } else if (kind == MINUS) {
                if (opens(open)) {
                    readOne(open + 1);
                    draft.emit(FIRST_SIGN_CODE + NEGATE);
                }
            } else {
                readName();
            }
        }

        private void readName() {
            if (kind < FIRST_NAME || kind > LAST_NAME) {
                fail(CANT_STAND);
            } else if ((allowedNames >> kind - FIRST_NAME & 1) == 0) {
                fail(NOT_OF_CLAUSE);
            }
            draft.emit(FIRST_SIGN_CODE + kind);
            step();
        }

        /** Steps over one of ( not and -, if it isn't the 9th; behind a FAULT nothing opens. */
        private boolean opens(int open) {
            if (open >= MOST_OPEN) {
                fail(TOO_DEEP);
            }
            step();
            return fault == 0;
        }

        private static boolean compares(int sign) {
            return sign >= LESS && sign <= UNLIKE || sign == AT_MOST || sign == AT_LEAST;
        }
    }

    /** Reckons what a CLAUSE's sum or ask is worth, of the values that its NAMES have. */
    private static final class Sums {
        private static final int MOST_STACK = 64;

        private final int[] values = new int[NAMES_OF_CLAUSES];
        private final int[] stack = new int[MOST_STACK];

        int worthOf(Law law, int clause) {
            int top = 0;
            int behind = law.toOf(clause);
            for (int i = law.fromOf(clause); i < behind; i++) {
                int worth = law.codeAt(i);
                int sign = worth - FIRST_SIGN_CODE;
                if (sign >= FIRST_NAME && sign <= LAST_NAME) {
                    worth = values[sign - FIRST_NAME];
                } else if (sign == NEGATE || sign == NOT) {
                    top = Math.max(0, top - 1);
                    worth = sign == NEGATE ? -stack[top] : 1 - stack[top];
                } else if (sign >= 0) {
                    top = Math.max(0, top - 2);
                    long both = worthOfBoth(sign, stack[top], stack[top + 1]);
                    worth = (int) Math.max(-MOST_WORTH, Math.min(MOST_WORTH, both));
                }
                if (top < stack.length) {
                    stack[top] = worth;
                    top++;
                }
            }
            return stack[0];
        }

        private static long worthOfBoth(int sign, long left, long right) {
            switch (sign) {
                case PLUS:
                    return left + right;
                case MINUS:
                    return left - right;
                case TIMES:
                    return left * right;
                case OVER:
                    return right == 0 ? 0 : left / right;
                case REST:
                    return right == 0 ? 0 : left % right;
                case LESS:
                    return left < right ? 1 : 0;
                case AT_MOST:
                    return left <= right ? 1 : 0;
                case MORE:
                    return left > right ? 1 : 0;
                case AT_LEAST:
                    return left >= right ? 1 : 0;
                case SAME:
                    return left == right ? 1 : 0;
                case UNLIKE:
                    return left != right ? 1 : 0;
                case AND:
                    return left & right;
                case OR:
                    return left | right;
                default:
                    return 0;
            }
        }
    }

    /** What can be under THE TEXT, and what comes of it; in the town as it is, or in one that is tried. */
    private static final class Goings {
        private final World world;
        private final Law[] laws;
        private final Sums sums = new Sums();
        private final Town tried = new Town();

        Goings(World world, Law[] laws) {
            this.world = world;
            this.laws = laws;
        }

        private Law ruling() {
            int text = world.ruling;
            return text >= 0 && text < laws.length ? laws[text] : null;
        }

        /** Whether it can be; IN at a GATE of LOT too. */
        boolean canBe(Town town, int who, int gate) {
            if (!world.hasPerson(who) || !world.hasGate(gate)) {
                return false;
            }
            if (town.nameOf(who) == NONE && town.sizeOf(gate) == 0) {
                return false;
            }
            return !isBarred(town, who, gate);
        }

        private boolean isBarred(Town town, int who, int gate) {
            Law law = ruling();
            if (law == null) {
                return false;
            }
            tellGoing(town, who, gate);
            for (int i = 0; i < law.size; i++) {
                if (law.kindOf(i) == BARS && sums.worthOf(law, i) != 0) {
                    return true;
                }
            }
            return false;
        }

        private int feeOf(Town town, int who, int gate) {
            Law law = ruling();
            if (law == null || law.fee == NONE) {
                return 1;
            }
            tellGoing(town, who, gate);
            return Math.max(0, Math.min(MOST_FEE, sums.worthOf(law, law.fee)));
        }

        /** The place on the HEAP from which one comes in, by take. */
        int placeFor(Town town, int who, int gate) {
            int size = town.sizeOf(gate);
            Law law = ruling();
            if (law == null || law.take == NONE) {
                return size - 1;
            }
            tellGoing(town, who, gate);
            int best = NONE;
            int most = 0;
            for (int place = 0; place < size; place++) {
                int name = town.nameAt(gate, place);
                sums.values[PLACE] = place;
                sums.values[NAME] = name;
                sums.values[OWN] = name == who && world.born[who] ? 1 : 0;
                int worth = sums.worthOf(law, law.take);
                if (best == NONE || worth >= most) {
                    best = place;
                    most = worth;
                }
            }
            return best;
        }

        private void tellGoing(Town town, int who, int gate) {
            int name = town.nameOf(who);
            sums.values[NAME] = name;
            sums.values[WHO] = who;
            sums.values[GATE] = gate;
            sums.values[SIZE] = town.sizeOf(gate);
            sums.values[HOUR] = world.hour;
            sums.values[IN] = name == NONE ? 1 : 0;
        }

        /** A GOING for good: the NAME, or NONE if it can't be. */
        int doNow(int who, int gate) {
            Town town = world.town;
            if (!canBe(town, who, gate)) {
                return NONE;
            }
            world.paid[who] += feeOf(town, who, gate);
            world.done[who]++;
            if (town.nameOf(who) != NONE) {
                return town.leave(who, gate);
            }
            int place = world.lot[gate] ? world.draw(town.sizeOf(gate)) : placeFor(town, who, gate);
            return town.enter(who, gate, place);
        }

        /** A GOING in a town that is tried, without lots: the NAME, or NONE if it can't be. */
        int doTried(Town town, int who, int gate) {
            if (!canBe(town, who, gate)) {
                return NONE;
            }
            if (town.nameOf(who) != NONE) {
                return town.leave(who, gate);
            }
            return world.lot[gate] ? NONE : town.enter(who, gate, placeFor(town, who, gate));
        }

        /** Tries the ROW as far as it can be done: the first that can't, or NONE. */
        int judgeRow() {
            tried.copyFrom(world.town);
            for (int i = 0; i < world.row.size; i++) {
                if (doTried(tried, world.row.at(i, ROW_WHO), world.row.at(i, ROW_GATE)) == NONE) {
                    return i;
                }
            }
            return NONE;
        }
    }

    /** CHANCE, in parts of a whole that six draws by up to 8 always divide. */
    private static final class Odds {
        private static final long WHOLE = 592704000L * 592704000L;
        private static final int MOST_STEPS = 200;

        private final World world;
        private final Goings goings;
        private final Town town = new Town();
        private int who = 0;
        private int name = 0;
        private long upper = 0;
        private long lower = 1;

        Odds(World world, Goings goings) {
            this.world = world;
            this.goings = goings;
        }

        int lotsOfRow() {
            int count = 0;
            for (int i = 0; i < world.row.size; i++) {
                if (isOfLot(world.row.at(i, ROW_GATE))) {
                    count++;
                }
            }
            return count;
        }

        private boolean isOfLot(int gate) {
            return world.hasGate(gate) && world.lot[gate];
        }

        void reckon(int whose, int wanted) {
            who = whose;
            name = wanted;
            town.copyFrom(world.town);
            long sum = sumFrom(0, WHOLE);
            long most = Math.max(1, commonDivisor(sum, WHOLE));
            upper = sum / most;
            lower = WHOLE / most;
        }

        /** How many parts of these fall to it, from that GOING of the ROW on. */
        private long sumFrom(int step, long parts) {
            if (step >= world.row.size || step >= MOST_ROW) {
                return town.nameOf(who) == name ? parts : 0;
            }
            int goer = world.row.at(step, ROW_WHO);
            int gate = world.row.at(step, ROW_GATE);
            if (isOfLot(gate) && town.nameOf(goer) == NONE) {
                return sumOfLot(step, parts);
            }
            goings.doTried(town, goer, gate);
            return sumFrom(step + 1, parts);
        }

        private long sumOfLot(int step, long parts) {
            int goer = world.row.at(step, ROW_WHO);
            int gate = world.row.at(step, ROW_GATE);
            int size = town.sizeOf(gate);
            if (size <= 0 || !goings.canBe(town, goer, gate)) {
                return sumFrom(step + 1, parts);
            }
            long before = town.packed();
            long sum = 0;
            for (int place = 0; place < size; place++) {
                town.enter(goer, gate, place);
                sum += sumFrom(step + 1, parts / size);
                town.unpack(before);
            }
            return sum;
        }

        private static long commonDivisor(long a, long b) {
            long greater = b;
            long rest = a;
            for (int i = 0; i < MOST_STEPS && rest != 0; i++) {
                long next = greater % rest;
                greater = rest;
                rest = next;
            }
            return greater;
        }
    }

    /** All WAYS that THE BOOK leaves, and where they end. */
    private static final class Ways {
        private final World world;
        private final Goings goings;
        private final Town town = new Town();
        private int count = 0;
        // Of each NAME who has it at the end of some way, as MAY tells it.
        private final int[] places = new int[MOST_NAMES];
        // Of each one at how many ways' ends he has which NAME; the first: he is OUTSIDE.
        private final int[][] parts = new int[MOST_PEOPLE][MOST_NAMES + 1];

        Ways(World world, Goings goings) {
            this.world = world;
            this.goings = goings;
        }

        boolean hasLost() {
            for (int i = 0; i < world.book.size; i++) {
                if (isLost(i)) {
                    return true;
                }
            }
            return false;
        }

        private boolean isLost(int line) {
            return world.book.at(line, LINE_NAME) == NONE;
        }

        void reckon() {
            count = 0;
            Arrays.fill(places, 0);
            for (int who = 0; who < MOST_PEOPLE; who++) {
                Arrays.fill(parts[who], 0);
            }
            town.copyFrom(world.town);
            follow(0);
        }

        private void follow(int line) {
            if (line >= world.book.size || line >= MOST_LINES) {
                tellEnd();
                return;
            }
            for (int who = 0; who < world.people; who++) {
                for (int gate = 0; gate < world.gates; gate++) {
                    if (isLost(line) || gate == world.book.at(line, LINE_GATE)) {
                        followGoing(line, who, gate);
                    }
                }
            }
        }

        private void followGoing(int line, int who, int gate) {
            if (!mayBeOf(line, who) || !goings.canBe(town, who, gate)) {
                return;
            }
            if (town.nameOf(who) != NONE) {
                long before = town.packed();
                town.leave(who, gate);
                follow(line + 1);
                town.unpack(before);
            } else if (world.lot[gate]) {
                int size = town.sizeOf(gate);
                for (int place = 0; place < size; place++) {
                    followIn(line, who, gate, place);
                }
            } else {
                followIn(line, who, gate, goings.placeFor(town, who, gate));
            }
        }

        /** Whether he is where the line has him, OUT under its NAME; asked first, as laws are dear. */
        private boolean mayBeOf(int line, int who) {
            int name = town.nameOf(who);
            boolean in = world.book.at(line, LINE_IN) == 1;
            return isLost(line) || (in ? name == NONE : name == world.book.at(line, LINE_NAME));
        }

        private void followIn(int line, int who, int gate, int place) {
            int name = town.nameAt(gate, place);
            if (isLost(line) || name == world.book.at(line, LINE_NAME)) {
                long before = town.packed();
                town.enter(who, gate, place);
                follow(line + 1);
                town.unpack(before);
            }
        }

        private void tellEnd() {
            count++;
            for (int who = 0; who < world.people; who++) {
                int name = town.nameOf(who);
                parts[who][name + 1]++;
                tellPlace(name, 1 << who);
            }
            for (int gate = 0; gate < world.gates; gate++) {
                for (int place = 0; place < town.sizeOf(gate); place++) {
                    tellPlace(town.nameAt(gate, place), ON_HEAP);
                }
            }
        }

        private void tellPlace(int name, int bit) {
            if (isName(name)) {
                places[name] |= bit;
            }
        }

        int greatestPart(int who) {
            int greatest = 0;
            if (who >= 0 && who < MOST_PEOPLE) {
                for (int i = 0; i < parts[who].length; i++) {
                    greatest = Math.max(greatest, parts[who][i]);
                }
            }
            return greatest;
        }

        int whomToLookAt() {
            int whom = 0;
            for (int who = 1; who < world.people; who++) {
                if (greatestPart(who) < greatestPart(whom)) {
                    whom = who;
                }
            }
            return whom;
        }
    }

    /** FEWEST: states in the order in which they are found, each with the GOING by which it was. */
    private static final class Search {
        private static final int MOST_TABLE = 4096;
        private static final int TABLE_SHIFT = 52;
        private static final long SPREAD = 0x9E3779B97F4A7C15L;
        private static final int GOING_BASE = 100;

        private final World world;
        private final Goings goings;
        private final Town town = new Town();
        private final int[] wanted = new int[MOST_PEOPLE];
        private final long[] states = new long[MOST_STATES];
        // The state that it was found from, times GOING_BASE, and the GOING as FEWEST tells it.
        private final int[] origins = new int[MOST_STATES];
        // By the spread of a state where it is among them, counted from 1; 0: it isn't.
        private final int[] table = new int[MOST_TABLE];
        private int size = 0;

        Search(World world, Goings goings) {
            this.world = world;
            this.goings = goings;
        }

        void wantNothing() {
            Arrays.fill(wanted, NONE);
        }

        void want(int who, int name) {
            if (who >= 0 && who < wanted.length) {
                wanted[who] = name;
            }
        }

        /** The state where all is as wanted; NONE, SPENT. */
        int find(int set) {
            size = 0;
            Arrays.fill(table, 0);
            town.copyFrom(world.town);
            add(town.packed(), 0);
            if (isAsWanted()) {
                return 0;
            }
            for (int from = 0; from < size && from < MOST_STATES; from++) {
                int found = goOnFrom(from, set);
                if (found != NONE) {
                    return found;
                }
            }
            return NONE;
        }

        private int goOnFrom(int from, int set) {
            town.unpack(states[from]);
            for (int who = 0; who < world.people; who++) {
                for (int gate = 0; gate < world.gates; gate++) {
                    if ((set >> who & 1) == 0 || world.lot[gate] || goings.doTried(town, who, gate) == NONE) {
                        continue;
                    }
                    if (add(town.packed(), from * GOING_BASE + 10 * who + gate)) {
                        if (size > MOST_STATES) {
                            return SPENT;
                        }
                        if (isAsWanted()) {
                            return size - 1;
                        }
                    }
                    town.unpack(states[from]);
                }
            }
            return NONE;
        }

        private boolean isAsWanted() {
            for (int who = 0; who < wanted.length; who++) {
                if (wanted[who] != NONE && town.nameOf(who) != wanted[who]) {
                    return false;
                }
            }
            return true;
        }

        /** Counts a state, if it is new; the one too many is counted, but not kept. */
        private boolean add(long state, int origin) {
            int slot = slotOf(state);
            if (table[slot] != 0) {
                return false;
            }
            if (size < MOST_STATES) {
                states[size] = state;
                origins[size] = origin;
                table[slot] = size + 1;
            }
            size++;
            return true;
        }

        /** Where in the table it is, or would be; the table always has free slots. */
        private int slotOf(long state) {
            int slot = (int) (state * SPREAD >>> TABLE_SHIFT);
            for (int i = 0; i < MOST_TABLE; i++) {
                int kept = table[slot];
                if (kept <= 0 || kept > MOST_STATES || states[kept - 1] == state) {
                    return slot;
                }
                slot = slot + 1 & MOST_TABLE - 1;
            }
            return slot;
        }

        int lengthOf(int found) {
            int length = 0;
            int at = found;
            while (at > 0 && at < MOST_STATES && length < MOST_STATES) {
                at = origins[at] / GOING_BASE;
                length++;
            }
            return length;
        }

        /** The k-th GOING of the row to it, or NONE. */
        int goingOf(int found, int k) {
            int behind = lengthOf(found) - 1 - k;
            if (k < 0 || behind < 0 || found < 0 || found >= MOST_STATES) {
                return NONE;
            }
            int at = found;
            for (int i = 0; i < behind; i++) {
                at = origins[at] / GOING_BASE;
            }
            return origins[at] % GOING_BASE;
        }
    }

    /** LEFT and THIEF. */
    private static final class Crowd {
        private final World world;
        private final Goings goings;
        private final Town town = new Town();
        private int gate = 0;
        private int who = 0;
        private int name = 0;

        Crowd(World world, Goings goings) {
            this.world = world;
            this.goings = goings;
        }

        int countOrders(int byGate, int whose, int wanted) {
            gate = byGate;
            who = whose;
            name = wanted;
            town.copyFrom(world.town);
            int waiting = 0;
            for (int one = 0; one < world.people; one++) {
                if (!world.isInside(one)) {
                    waiting |= 1 << one;
                }
            }
            return countFrom(waiting, MOST_CROWD);
        }

        private int countFrom(int waiting, int deepest) {
            if (waiting == 0 || deepest <= 0) {
                return town.nameOf(who) == name ? 1 : 0;
            }
            long before = town.packed();
            int sum = 0;
            for (int one = 0; one < world.people; one++) {
                if ((waiting >> one & 1) == 1) {
                    goings.doTried(town, one, gate);
                    sum += countFrom(waiting & ~(1 << one), deepest - 1);
                    town.unpack(before);
                }
            }
            return sum;
        }

        int leastOwed(int thief, int most) {
            town.copyFrom(world.town);
            return leastFrom(thief, most);
        }

        private int leastFrom(int thief, int more) {
            int own = town.nameOf(thief);
            int least = own == NONE ? NONE : world.owedUnder(own);
            if (more <= 0) {
                return least;
            }
            long before = town.packed();
            for (int by = 0; by < world.gates; by++) {
                if (!world.lot[by] && goings.doTried(town, thief, by) != NONE) {
                    least = lesser(least, leastFrom(thief, more - 1));
                    town.unpack(before);
                }
            }
            return least;
        }

        private static int lesser(int a, int b) {
            if (a == NONE || b == NONE) {
                return Math.max(a, b);
            }
            return Math.min(a, b);
        }
    }
}
