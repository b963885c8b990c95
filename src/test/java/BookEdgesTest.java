/** Boundaries of the promises on the book: its lines, all ways, who may have a name, and whom to look at. */
public final class BookEdgesTest extends Edges {
    private static final int[] OTHER_GATES = {-2, 2, 3, -3, Integer.MIN_VALUE, Integer.MAX_VALUE};

    public static void main(String[] args) throws ReflectiveOperationException {
        new BookEdgesTest().runAll();
    }

    /** 1 goes out and comes in, again and again, so many lines; 7 is OUTSIDE too. */
    private static LastName withLines(int n) {
        LastName x = town(7, 1, 2, 0);
        for (int i = 0; i < n; i++) {
            x.line(i % 2 == 1, 1, 1);
        }
        return x;
    }

    private static LastName withLost() {
        LastName x = withLines(2);
        x.line(false, -1, 0);
        return x;
    }

    /** All of 8 have left their NAMES at one of three GATES, the lowest first. */
    private static LastName allOut(int gate, int lots) {
        LastName x = town(8, 0, 3 - lots, lots);
        for (int i = 0; i < 8; i++) {
            x.go(i, gate);
        }
        return x;
    }

    void promise21_theSixthIsTheLast() {
        LastName x = town(2, 0, 1, 0);
        for (int i = 1; i <= 6; i++) {
            c.due("line", x.line(i % 2 == 0, 0, 0), i);
            c.due("lines", x.about(7), i);
        }
        c.due("the seventh", x.line(false, 0, 0), -1);
        c.due("lines", x.about(7), 6);
        kept("the seventh, out", () -> withLines(6), y -> y.line(false, 1, 1), -1);
        kept("the seventh, in", () -> withLines(6), y -> y.line(true, 0, 0), -1);
    }

    void promise21_aLostOneIsALineToo() {
        c.due("the sixth", withLines(5).line(true, -1, 0), 6);
        kept("the seventh", () -> withLines(6), y -> y.line(true, -1, 0), -1);
        LastName x = withLost();
        for (int i = 4; i <= 6; i++) {
            c.due("line", x.line(false, 0, 0), i);
        }
        c.due("the seventh", x.line(false, 0, 0), -1);
    }

    void promise21_namesFrom0To7() {
        for (boolean in : new boolean[] {true, false}) {
            for (int name : new int[] {0, 1, 6, 7}) {
                c.due("line of " + name, town(1, 0, 1, 0).line(in, name, 0), 1);
            }
            keptOfEach("name", () -> withLines(3), beside(-1, 7), (x, name) -> x.line(in, name, 0), -1);
        }
    }

    void promise21_gatesThatThereAre() {
        for (boolean in : new boolean[] {true, false}) {
            c.due("the first", withLines(3).line(in, 1, 0), 4);
            c.due("the last", withLines(3).line(in, 1, 1), 4);
            keptOfEach("gate", () -> withLines(3), OTHER_GATES, (x, gate) -> x.line(in, 1, gate), -1);
        }
        c.due("without gates", new LastName().line(false, 0, 0), -1);
    }

    void promise21_aLostOneWhateverInAndGateAre() {
        for (boolean in : new boolean[] {true, false}) {
            for (int gate : new int[] {0, 1, 2, 3, -2, Integer.MIN_VALUE, Integer.MAX_VALUE}) {
                LastName x = withLines(2);
                c.due("lost by " + gate, x.line(in, -1, gate), 3);
                c.same("as another one", View.of(x), View.of(withLost()));
                c.due("without gates", new LastName().line(in, -1, gate), 1);
            }
        }
    }

    void promise21_noSecondLostOne() {
        for (int gate : new int[] {0, 1, 7}) {
            kept("a second", BookEdgesTest::withLost, x -> x.line(true, -1, gate), -1);
        }
        LastName x = new LastName();
        c.due("the first", x.line(true, -1, 0), 1);
        c.due("the second", x.line(false, -1, 0), -1);
        x.line(true, 0, -1);
        c.due("the first of an empty book", x.line(true, -1, 0), 1);
        c.due("the second of it", x.line(true, -1, 0), -1);
    }

    void promise21_gateNoneEmptiesIt() {
        for (int name : new int[] {-1, 0, 7, 8, -2, Integer.MIN_VALUE, Integer.MAX_VALUE}) {
            for (boolean in : new boolean[] {true, false}) {
                LastName x = withLost();
                c.due("line " + name, x.line(in, name, -1), 0);
                c.due("lines", x.about(7), 0);
                c.due("one way", x.ways(), 1);
                c.due("the first again", x.line(false, 3, 0), 1);
                c.due("it is that line", x.may(3), 256);
            }
        }
        kept("an empty one", () -> withLines(0), x -> x.line(false, -1, -1), 0);
        c.due("a full one", withLines(6).line(true, 1, -1), 0);
    }

    void promise22_withoutLinesThereIsOne() {
        c.due("of nobody", new LastName().ways(), 1);
        kept("of some", () -> town(3, 1, 1, 1), LastName::ways, 1);
        LastName x = withLines(6);
        x.line(true, 0, -1);
        c.due("of an empty one", x.ways(), 1);
    }

    void promise22_withoutPeopleOrGatesNoLineIsSo() {
        LastName x = new LastName();
        x.line(true, -1, 0);
        c.due("a lost one of nobody", x.ways(), 0);
        LastName y = town(3, 1, 0, 0);
        y.line(true, -1, 0);
        c.due("a lost one without gates", y.ways(), 0);
        LastName z = town(0, 0, 2, 0);
        z.line(false, 0, 0);
        c.due("a line of nobody", z.ways(), 0);
        LastName outside = town(0, 3, 2, 0);
        outside.line(true, -1, 0);
        c.due("all are outside, and nothing hangs there", outside.ways(), 0);
    }

    void promise22_eachLineUpToTheSixthCounts() {
        int[] due = {1, 1, 2, 2, 4, 4, 8};
        for (int n = 0; n <= 6; n++) {
            int lines = n;
            kept("of " + n, () -> withLines(lines), LastName::ways, due[n]);
        }
        LastName x = withLines(5);
        x.line(true, 0, 1);
        c.due("the sixth isn't so", x.ways(), 0);
    }

    void promise22_aLineIsSoByItsNameItsGateAndItsWay() {
        LastName x = town(2, 1, 2, 0);
        x.go(0, 0);
        Object[][] lines = {{false, 1, 0, 1}, {false, 1, 1, 1}, {false, 0, 0, 0}, {false, 2, 0, 0}, {true, 0, 0, 2}, {true, 0, 1, 0},
            {true, 1, 0, 0}, {true, 2, 0, 0}, {false, 7, 0, 0}, {true, 7, 0, 0}};
        for (Object[] line : lines) {
            x.line(true, 0, -1);
            x.line((Boolean) line[0], (Integer) line[1], (Integer) line[2]);
            c.due("in " + line[0] + " " + line[1] + " by " + line[2], x.ways(), (Integer) line[3]);
        }
    }

    void promise22_ofALostOneAny() {
        LastName all = town(8, 0, 3, 0);
        all.line(true, -1, 0);
        c.due("8 out by 3", all.ways(), 24);
        for (int lots = 0; lots < 2; lots++) {
            LastName x = allOut(0, 3 * lots);
            x.line(false, -1, 0);
            c.due("8 in, by lot with each name", x.ways(), lots == 0 ? 8 : 64);
        }
        LastName y = town(2, 1, 1, 1);
        y.go(0, 0);
        y.line(false, -1, 0);
        c.due("1 out by two, 0 and 2 in by one", y.ways(), 4);
    }

    void promise22_aLostOneAtEachPlace() {
        LastName first = ruled(town(2, 0, 1, 0), "take 0-place;");
        first.line(false, -1, 0);
        first.line(false, 0, 0);
        c.due("first: it was 1", first.ways(), 1);
        first.line(true, 1, 0);
        c.due("the oldest is 1", first.ways(), 2);
        LastName between = ruled(town(2, 0, 1, 0), "take 0-place;");
        between.line(false, 0, 0);
        between.line(false, -1, 0);
        c.due("last: 0 in or 1 out", between.ways(), 2);
        between.line(true, 0, 0);
        c.due("between: 1 out, then 0 or 1 in", between.ways(), 2);
        between.by(-1);
        c.due("by the latest 0 doesn't come", between.ways(), 0);
    }

    void promise22_byLotEachNameCanBe() {
        LastName x = town(4, 0, 0, 1);
        for (int i = 0; i < 4; i++) {
            x.go(i, 0);
        }
        for (int name = 0; name < 4; name++) {
            x.line(true, 0, -1);
            x.line(true, name, 0);
            c.due("any of four with " + name, x.ways(), 4);
        }
        for (int name = 2; name >= 0; name--) {
            x.line(true, name, 0);
        }
        c.due("in all orders", x.ways(), 24);
        x.line(true, 0, 0);
        c.due("a fifth", x.ways(), 0);
    }

    void promise22_allEightNamesAtEachGate() {
        for (int gate = 0; gate < 3; gate++) {
            for (int lots = 0; lots <= 3; lots += 3) {
                LastName x = allOut(gate, lots);
                x.line(true, -1, 0);
                c.due("one of eight comes in", x.ways(), lots == 0 ? 8 : 64);
                c.due("with the latest", x.may(7), lots == 0 ? 255 : 255 + 256);
                c.due("with the oldest", x.may(0), lots == 0 ? 256 : 255 + 256);
                x.line(true, lots == 0 ? 6 : 7, gate);
                c.due("then one of seven", x.ways(), 56 * (lots == 0 ? 1 : 7));
            }
        }
    }

    void promise22_whatIsBarredIsNoWay() {
        LastName x = ruled(withLines(2), "bars who=7 and in=1;");
        c.due("1 alone", x.ways(), 1);
        ruled(x, "bars who=1 and in=0;");
        c.due("nobody", x.ways(), 0);
        ruled(x, "bars hour=0;");
        c.due("nobody at that hour", x.ways(), 0);
        x.hour(1);
        c.due("at another", x.ways(), 2);
    }

    void promise23_namesFrom0To7() {
        keptOfEach("may", BookEdgesTest::withLost, beside(0, 7), (x, name) -> x.may(name), -1);
        LastName x = town(8, 0, 1, 0);
        for (int name = 0; name < 8; name++) {
            c.due("may " + name, x.may(name), 1 << name);
        }
        c.due("of nobody", new LastName().may(0), 0);
        c.due("of nobody", new LastName().may(7), 0);
    }

    void promise23_bitsOfWhoMayHaveIt() {
        kept("1 or 7", () -> withLines(2), x -> x.may(1), 2 + 128);
        kept("0 himself", () -> withLines(2), x -> x.may(0), 1);
        c.due("nobody", withLines(2).may(7), 0);
        LastName x = town(1, 7, 1, 0);
        x.go(0, 0);
        x.line(true, 0, 0);
        c.due("any", x.may(0), 255);
        x.line(true, -1, 0);
        c.due("any, then out", x.may(0), 256);
    }

    void promise23_256MoreOnAHeap() {
        LastName x = withLines(1);
        c.due("it is on a heap", x.may(1), 256);
        LastName y = withLines(2);
        y.line(false, -1, 0);
        c.due("it may be, or with 1 or 7", y.may(1), 256 + 128 + 2);
        c.due("0 may be too", y.may(0), 256 + 1);
        LastName z = town(2, 0, 1, 1);
        z.go(0, 1);
        c.due("on a heap of lot", z.may(0), 256);
        c.due("with him", z.may(1), 2);
    }

    void promise23_0WithoutWays() {
        LastName x = withLines(2);
        x.line(true, 1, 1);
        c.due("ways", x.ways(), 0);
        for (int name = 0; name < 8; name++) {
            c.due("may " + name, x.may(name), 0);
        }
    }

    void promise24_noneForOthers() {
        keptOfEach("ask", BookEdgesTest::withLost, beside(0, 1), (x, what) -> x.ask(what), -1);
        keptOfEach("ask", () -> withLines(0), beside(0, 1), (x, what) -> x.ask(what), -1);
    }

    void promise24_noneWithoutPeople() {
        for (int what = 0; what < 2; what++) {
            int which = what;
            kept("of nobody", LastName::new, x -> x.ask(which), -1);
            kept("of gates alone", () -> town(0, 0, 1, 1), x -> x.ask(which), -1);
        }
        c.due("of one", town(1, 0, 0, 0).ask(0), 0);
        c.due("of one", town(0, 1, 0, 0).ask(1), 1);
    }

    void promise24_noneWithoutWays() {
        LastName x = withLines(2);
        c.due("two ways", x.ask(0), 1);
        x.line(true, 1, 1);
        c.due("none: whom", x.ask(0), -1);
        c.due("none: the greatest part", x.ask(1), -1);
    }

    void promise24_ofLikeOnesTheLowest() {
        kept("1 and 7 are like", () -> withLines(2), x -> x.ask(0), 1);
        kept("their parts", () -> withLines(2), x -> x.ask(1), 1);
        kept("all are like", () -> withLines(0), x -> x.ask(0), 0);
        kept("one way", () -> withLines(0), x -> x.ask(1), 1);
        LastName x = town(2, 0, 2, 0);
        x.line(false, -1, 0);
        c.due("0 or 1 out, by two gates", x.ask(0), 0);
        c.due("half of four", x.ask(1), 2);
    }

    void promise24_theGreatestPartIsLeast() {
        LastName x = town(7, 1, 0, 1);
        for (int i = 0; i < 3; i++) {
            x.go(i, 0);
        }
        ruled(x, "bars who<7;");
        x.line(false, -1, 0);
        c.due("7 draws one of three", x.ways(), 3);
        c.due("he tells most", x.ask(0), 7);
        c.due("each part is one", x.ask(1), 1);
        ruled(x, "bars who<6 or who=6 and in=1;");
        c.due("or 6 goes out", x.ways(), 4);
        c.due("still he", x.ask(0), 7);
        c.due("6 has parts of 3 and 1", x.ask(1), 1);
    }

    /** Being OUTSIDE is a part of its own, beside the NAMES. */
    void promise24_beingOutsideIsAPart() {
        LastName x = town(1, 1, 1, 0);
        x.line(false, 0, 0);
        x.line(true, 0, 0);
        c.due("0 or 1", x.ways(), 2);
        c.due("whom", x.ask(0), 0);
        c.due("0 has 0, or is outside", x.ask(1), 1);
        x.line(false, -1, 0);
        c.due("both are outside then", x.ask(1), 2);
    }
}
