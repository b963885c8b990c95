/** Boundaries of the promises on draws, the image, and what can be asked about all. */
public final class DrawEdgesTest extends Edges {
    private static final int ROUND = 30109;

    public static void main(String[] args) throws ReflectiveOperationException {
        new DrawEdgesTest().runAll();
    }

    private static int next(int x) {
        return (int) ((x * 191L + 43) % ROUND);
    }

    void promise29_from0To9999() {
        LastName x = new LastName();
        c.due("at first by 0", x.about(10), 5);
        for (int v : new int[] {0, 1, 2, 9998, 9999}) {
            c.due("seed " + v, x.seed(v), true);
            c.due("x", x.about(10), v * 11 + 5);
        }
    }

    void promise29_falseForOthers() {
        keptOfEach("seed", Edges::busy, beside(0, 9999), (x, v) -> bit(x.seed(v)), 0);
        LastName x = new LastName();
        x.seed(9999);
        c.due("10000", x.seed(10000), false);
        c.due("x", x.about(10), 109994);
    }

    void promise30_from1To100() {
        for (int n : new int[] {1, 2, 99, 100}) {
            LastName x = town(1, 0, 1, 0);
            c.due("days " + n, x.days(n), n);
            c.due("goings", x.of(0, 2), n);
        }
        keptOfEach("days", Edges::busy, beside(1, 100), (x, n) -> x.days(n), -1);
    }

    void promise30_noneWithoutPeopleOrGates() {
        for (int n : new int[] {1, 100}) {
            kept("nobody", LastName::new, x -> x.days(n), -1);
            kept("no gates", () -> town(2, 1, 0, 0), x -> x.days(n), -1);
            kept("no people", () -> town(0, 0, 1, 1), x -> x.days(n), -1);
        }
        c.due("one of each", town(1, 0, 1, 0).days(1), 1);
    }

    void promise30_firstWhoThenTheGate() {
        LastName x = town(2, 0, 3, 0);
        c.due("days", x.days(1), 1);
        c.due("5 mod 2, 998 mod 3", x.heap(2, 0), 1);
        c.due("two draws", x.about(10), next(998));
    }

    void promise30_whatCantBeIsLeftOut() {
        LastName x = town(0, 3, 2, 0);
        c.due("none can come in", x.days(100), 0);
        int due = 5;
        for (int i = 0; i < 200; i++) {
            due = next(due);
        }
        c.due("but all is drawn", x.about(10), due);
        LastName y = ruled(town(3, 0, 2, 0), "bars 1=1;");
        c.due("all is barred", y.days(100), 0);
        c.due("but all is drawn", y.about(10), due);
        LastName z = town(0, 1, 0, 1);
        c.due("none by lot either", z.days(1), 0);
        c.due("without a third draw", z.about(10), next(next(5)));
    }

    void promise30_theTextRulesThem() {
        LastName x = ruled(town(2, 0, 1, 0), "fee 5+in;bars who=0;");
        c.due("5 mod 2: 1 goes out", x.days(1), 1);
        c.due("he paid", x.of(1, 1), 5);
        c.due("10007 mod 2: 1 comes in", x.days(1), 1);
        c.due("he paid", x.of(1, 1), 11);
        x.seed(1);
        c.due("16 mod 2: 0 can't", x.days(1), 0);
        c.due("he paid nothing", x.of(0, 1), 0);
        LastName y = ruled(town(3, 0, 1, 0), "take 0-place;bars who<2 and in=1;");
        for (int who = 0; who < 3; who++) {
            y.go(who, 0);
        }
        c.due("5 mod 3: 2 comes in", y.days(1), 1);
        c.due("with the oldest", y.of(2, 0), 0);
    }

    void promise30_byLotAThirdDraw() {
        LastName x = town(1, 0, 0, 1);
        c.due("out", x.days(1), 1);
        c.due("two draws", x.about(10), next(next(5)));
        c.due("in", x.days(1), 1);
        c.due("three more", x.about(10), next(next(next(next(next(5))))));
    }

    /** X as it is told may be above 30109: it is drawn by as it is. */
    void promise30_theFirstDrawIsOfXAsTold() {
        for (int v : new int[] {2736, 2737, 9998, 9999}) {
            LastName x = town(7, 0, 1, 0);
            x.seed(v);
            int who = (v * 11 + 5) % 7;
            x.days(1);
            c.due("he of seed " + v, x.of(who, 2), 1);
            c.due("x", x.about(10), next(next(v * 11 + 5)));
        }
    }

    /** X goes round at 30109: behind a draw it can be 0 or 30108, but never 30109. */
    void promise30_xGoesRound() {
        int tried = 0;
        for (int v = 0; v <= 9999; v++) {
            int drawn = next(v * 11 + 5);
            if (drawn == 0 || drawn == 1 || drawn == ROUND - 1 || drawn == ROUND - 2) {
                LastName x = town(1, 0, 0, 1);
                x.go(0, 0);
                x.seed(v);
                c.due("in", x.go(0, 0), 0);
                c.due("x behind seed " + v, x.about(10), drawn);
                x.go(0, 0);
                x.go(0, 0);
                c.due("x behind that", x.about(10), next(drawn));
                tried++;
            }
        }
        c.due("there are such seeds", tried > 0, true);
    }

    void promise30_thatManyFromTheOldestOn() {
        for (int m = 1; m <= 8; m++) {
            for (int rest = 0; rest < m; rest++) {
                LastName x = town(8, 0, 0, 1);
                for (int i = 0; i < m; i++) {
                    x.go(7 - i, 0);
                }
                int v = 0;
                while ((v * 11 + 5) % m != rest) {
                    v++;
                }
                x.seed(v);
                c.due("at " + rest + " of " + m, x.go(7, 0), 7 - rest);
                c.due("left", x.heap(0, -1), m - 1);
            }
        }
    }

    void promise30_outAndWhatCantBeDrawNothing() {
        LastName x = town(2, 1, 1, 1);
        x.go(2, 1);
        c.due("in by an empty gate of lot", x.about(10), 5);
        x.go(0, 1);
        x.go(1, 1);
        c.due("out by lot", x.about(10), 5);
        ruled(x, "bars who=0;");
        x.go(0, 1);
        c.due("barred", x.about(10), 5);
        x.go(1, 1);
        c.due("in by lot of two", x.about(10), 998);
        x.go(2, 1);
        c.due("in by lot of one", x.about(10), next(998));
    }

    void promise31_howManyPeopleThereAre() {
        for (int people = 0; people <= 8; people++) {
            int n = people;
            kept("again of " + people, () -> imaged(n), LastName::image, n);
            c.due("image of " + people, town(n, 0, 0, 0).image(), n);
        }
    }

    private static LastName imaged(int people) {
        LastName x = town(people, 0, 1, 0);
        x.image();
        return x;
    }

    void promise31_theLatestImageCounts() {
        LastName x = town(2, 0, 1, 0);
        x.image();
        x.person(true);
        x.go(0, 0);
        c.due("image", x.image(), 3);
        x.go(1, 0);
        c.due("back", x.back(), 3);
        c.due("0 is out", x.of(0, 0), -1);
        c.due("1 is in", x.of(1, 0), 1);
    }

    /** The image has all that full has, and then all is changed. */
    void promise32_allIsSoAgain() {
        LastName x = fullImage();
        spoil(x);
        Check.put(x, "fee 1;" + " ".repeat(294));
        c.due("back", x.back(), 8);
        LastName y = fullImage();
        c.same("as it was", View.of(x), View.of(y));
    }

    private static void spoil(LastName x) {
        x.hour(13);
        Check.read(x, "fee 500;take 0-place;");
        x.by(x.about(3) - 1);
        x.seed(4321);
        x.days(40);
        x.row(-1, 0);
        x.row(7, 2);
        x.line(true, 0, -1);
        x.line(true, -1, 0);
    }

    void promise32_backToNobody() {
        LastName x = new LastName();
        x.image();
        for (int i = 0; i < 8; i++) {
            x.person(i < 4);
        }
        x.gate(true);
        x.gate(false);
        x.gate(true);
        x.deed(0, 9);
        spoil(x);
        c.due("back", x.back(), 0);
        LastName y = new LastName();
        y.text();
        y.back();
        c.same("as a new one", View.of(x), View.of(y));
    }

    void promise32_whatIsToldBehindItIsNew() {
        LastName x = town(1, 0, 1, 0);
        x.image();
        x.person(true);
        x.gate(true);
        x.go(1, 1);
        x.go(1, 1);
        x.go(1, 1);
        x.back();
        c.due("a person again", x.person(false), 1);
        c.due("he is outside", x.of(1, 0), -1);
        c.due("born", x.of(1, 5), 0);
        c.due("paid", x.of(1, 1), 0);
        c.due("done", x.of(1, 2), 0);
        c.due("a gate again", x.gate(false), 1);
        c.due("nothing hangs there", x.heap(1, -1), 0);
        x.row(0, 1);
        x.row(1, 1);
        c.due("not of lot", x.judge(), -1);
    }

    void promise32_theImageStays() {
        LastName x = town(2, 1, 1, 1);
        x.go(0, 0);
        x.image();
        for (int times = 0; times < 3; times++) {
            x.go(2, 0);
            x.go(1, 1);
            x.person(true);
            x.seed(7);
            c.due("back", x.back(), 3);
            c.due("0 is out", x.heap(0, 0), 0);
            c.due("1 is in", x.of(1, 0), 1);
            c.due("2 is out", x.of(2, 0), -1);
            c.due("x", x.about(10), 5);
        }
        kept("at once", DrawEdgesTest::fullImage, LastName::back, 8);
    }

    private static LastName fullImage() {
        LastName x = full();
        x.image();
        return x;
    }

    void promise32_theTapeAndTheLatestFaultStay() {
        LastName x = town(1, 0, 1, 0);
        Check.put(x, "fee 3;");
        x.image();
        x.end(3);
        x.back();
        c.due("the tape is as it was cut", x.about(8), 3);
        c.due("text", x.text(), -1);
        x.back();
        c.due("it is empty", x.about(8), 0);
        c.due("the fault", x.fault(0), 1);
        c.due("its place", x.fault(1), 3);
        Check.read(x, "fee 4;");
        x.image();
        Check.read(x, "fee 10000;");
        x.back();
        c.due("the fault", x.fault(0), 2);
        c.due("its place", x.fault(1), 4);
        Check.put(x, "fee 5;");
        x.back();
        c.due("the tape", x.about(8), 6);
        c.due("it can be read", x.text(), 1);
    }

    void promise32_textsOfTheImageAreThereAgain() {
        LastName x = town(1, 0, 1, 0);
        Check.read(x, "fee 10;");
        Check.read(x, "fee 20;");
        x.by(1);
        x.image();
        for (int times = 0; times < 3; times++) {
            c.due("a third", Check.read(x, "fee " + (30 + times) + ";"), 2);
            c.due("a fourth", Check.read(x, "fee 40;"), 3);
            c.due("a fifth", Check.read(x, "fee 50;"), -1);
            x.by(2);
            x.go(0, 0);
            c.due("its fee", x.of(0, 1), 30 + times);
            x.end(0);
            x.back();
            c.due("texts", x.about(3), 2);
            c.due("the text", x.about(4), 1);
            c.due("by 2", x.by(2), false);
            x.go(0, 0);
            c.due("the fee of 1", x.of(0, 1), 20);
            x.by(0);
            x.go(0, 0);
            c.due("the fee of 0", x.of(0, 1), 30);
            x.back();
        }
    }

    void promise33_from0To10() {
        int[] due = {8, 3, 0, 3, 2, 20, 12, 6, 300, 7, 5};
        for (int what = 0; what <= 10; what++) {
            int which = what;
            kept("about " + what, Edges::full, x -> x.about(which), due[what]);
        }
        int[] nothing = {0, 0, 0, 0, -1, 0, 0, 0, 0, 0, 5};
        for (int what = 0; what <= 10; what++) {
            c.due("about " + what + " of a new one", new LastName().about(what), nothing[what]);
        }
    }

    void promise33_minus2ForOthers() {
        keptOfEach("about", Edges::busy, beside(0, 10), (x, what) -> x.about(what), -2);
        keptOfEach("about", LastName::new, beside(0, 10), (x, what) -> x.about(what), -2);
    }

    void promise33_howManyAreInside() {
        LastName x = town(8, 0, 1, 0);
        for (int i = 0; i < 8; i++) {
            c.due("inside", x.about(9), 8 - i);
            x.go(i, 0);
        }
        c.due("nobody", x.about(9), 0);
        x.go(5, 0);
        c.due("one", x.about(9), 1);
    }

    void promise33_xAtItsEnds() {
        LastName x = new LastName();
        c.due("at first", x.about(10), 5);
        x.seed(9999);
        c.due("the greatest that is told", x.about(10), 109994);
    }
}
