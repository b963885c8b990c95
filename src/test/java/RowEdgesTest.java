/** Boundaries of the promises on deeds, and on the row: judged, called, and what is likely by lot. */
public final class RowEdgesTest extends Edges {
    public static void main(String[] args) throws ReflectiveOperationException {
        new RowEdgesTest().runAll();
    }

    private static LastName withDeeds(int n) {
        LastName x = town(3, 1, 1, 0);
        for (int i = 0; i < n; i++) {
            x.deed(i % 2, 10 + i);
        }
        return x;
    }

    void promise15_coinsFrom1To999() {
        for (int coins : new int[] {1, 2, 998, 999}) {
            LastName x = town(1, 0, 1, 0);
            c.due("deed of " + coins, x.deed(0, coins), 1);
            c.due("owes", x.owes(0), coins);
        }
        keptOfEach("coins", Edges::busy, beside(1, 999), (x, coins) -> x.deed(2, coins), -1);
    }

    void promise15_namesFrom0To7() {
        LastName x = town(8, 0, 1, 0);
        for (int name = 0; name < 8; name++) {
            c.due("deed under " + name, x.deed(name, 1), name + 1);
        }
        keptOfEach("name", () -> town(8, 0, 1, 0), beside(0, 7), (y, name) -> y.deed(name, 1), -1);
    }

    void promise15_ifNobodyHasTheName() {
        kept("there is none such", () -> withDeeds(2), x -> x.deed(3, 5), -1);
        kept("nor that of nobody", () -> withDeeds(2), x -> x.deed(-1, 5), -1);
        kept("it hangs at a gate", RowEdgesTest::oneIsOut, x -> x.deed(0, 5), -1);
        LastName x = oneIsOut();
        x.go(3, 0);
        c.due("another one has it", x.deed(0, 5), 1);
        c.due("he did it", x.of(3, 4), 5);
        c.due("not he whose own it is", x.of(0, 4), 0);
    }

    private static LastName oneIsOut() {
        LastName x = town(3, 1, 1, 0);
        x.go(0, 0);
        return x;
    }

    void promise15_the20thIsTheLast() {
        LastName x = town(3, 1, 1, 0);
        for (int i = 1; i <= 20; i++) {
            c.due("deed", x.deed(i % 3, i), i);
            c.due("deeds", x.about(5), i);
        }
        c.due("the 21st", x.deed(0, 1), -1);
        c.due("deeds", x.about(5), 20);
        kept("the 21st", () -> withDeeds(20), y -> y.deed(0, 5), -1);
        kept("the 21st under a name without any", () -> withDeeds(20), y -> y.deed(2, 5), -1);
    }

    void promise15_aDeedStaysWithWhoDidIt() {
        LastName x = town(2, 0, 1, 0);
        x.deed(0, 30);
        x.go(0, 0);
        x.go(1, 0);
        x.go(0, 0);
        x.go(1, 0);
        c.due("0 has 1", x.of(0, 0), 1);
        c.due("0 owes nothing", x.of(0, 3), 0);
        c.due("0 did it", x.of(0, 4), 30);
        c.due("1 owes it", x.of(1, 3), 30);
        c.due("1 did nothing", x.of(1, 4), 0);
        x.deed(0, 4);
        c.due("1 did that", x.of(1, 4), 4);
        c.due("the name owes both", x.owes(0), 34);
    }

    void promise16_noneForOthers() {
        LastName x = withDeeds(5);
        for (int name : beside(0, 7)) {
            c.due("owes " + name, x.owes(name), -1);
        }
        keptOfEach("owes", Edges::busy, beside(0, 7), (y, name) -> y.owes(name), -1);
    }

    void promise16_aNameWithoutDeedsOwes0() {
        LastName x = town(3, 1, 1, 0);
        for (int name = 0; name < 8; name++) {
            c.due("owes " + name, x.owes(name), 0);
            c.due("owes " + name + " where nobody is", new LastName().owes(name), 0);
        }
    }

    void promise16_allDeedsUnderIt() {
        LastName x = town(8, 0, 1, 0);
        for (int i = 0; i < 20; i++) {
            x.deed(i < 10 ? 0 : 7, 999);
        }
        c.due("the first", x.owes(0), 9990);
        c.due("the last", x.owes(7), 9990);
        c.due("between", x.owes(3), 0);
        LastName y = town(1, 0, 1, 0);
        for (int i = 0; i < 20; i++) {
            y.deed(0, 999);
        }
        c.due("as much as can be", y.owes(0), 19980);
        y.go(0, 0);
        c.due("on a heap it owes it still", y.owes(0), 19980);
    }

    void promise17_the12thIsTheLast() {
        LastName x = town(2, 1, 1, 0);
        for (int i = 1; i <= 12; i++) {
            c.due("row", x.row(0, 0), i);
            c.due("goings", x.about(6), i);
        }
        c.due("the 13th", x.row(0, 0), -1);
        c.due("goings", x.about(6), 12);
        kept("the 13th", Edges::full, y -> y.row(1, 1), -1);
    }

    void promise17_noneForOthers() {
        keptOfEach("who", Edges::busy, new int[] {-2, 5, 6, -3, 8, Integer.MIN_VALUE, Integer.MAX_VALUE}, (x, who) -> x.row(who, 0), -1);
        keptOfEach("gate", Edges::busy, beside(0, 1), (x, gate) -> x.row(2, gate), -1);
        LastName x = busy();
        c.due("the first by the first", x.row(0, 0), 3);
        c.due("the last by the last", x.row(4, 1), 4);
        c.due("of nobody", new LastName().row(0, 0), -1);
        c.due("without a gate", town(1, 0, 0, 0).row(0, 0), -1);
        c.due("without one", town(0, 0, 1, 0).row(0, 0), -1);
    }

    void promise17_noneEmptiesIt() {
        for (int gate : new int[] {-1, 0, 1, 2, 3, Integer.MIN_VALUE, Integer.MAX_VALUE}) {
            LastName x = full();
            c.due("row none by " + gate, x.row(-1, gate), 0);
            c.due("goings", x.about(6), 0);
            c.due("judge", x.judge(), -1);
            c.due("the first again", x.row(7, 0), 1);
            c.due("he can't", x.judge(), 0);
        }
        kept("an empty one", () -> town(2, 0, 1, 0), x -> x.row(-1, 0), 0);
        c.due("of nobody", new LastName().row(-1, 0), 0);
    }

    void promise18_noneOfAnEmptyRow() {
        kept("an empty row", () -> town(2, 1, 1, 0), LastName::judge, -1);
        kept("of nobody", LastName::new, LastName::judge, -1);
    }

    /** A row of so many, of which one can't be: the gate that 2 would come in by is empty. */
    private static LastName rowWith(int length, int cant) {
        LastName x = town(2, 1, 2, 0);
        for (int i = 0; i < length; i++) {
            x.row(i == cant ? 2 : 0, i == cant ? 1 : 0);
        }
        return x;
    }

    void promise18_theFirstThatCantBe() {
        for (int cant = 0; cant < 12; cant++) {
            int at = cant;
            c.due("as the last of it", rowWith(cant + 1, cant).judge(), cant);
            kept("of twelve", () -> rowWith(12, at), LastName::judge, at);
        }
        kept("none can't", () -> rowWith(12, -1), LastName::judge, -1);
        LastName x = rowWith(3, 1);
        x.row(2, 1);
        c.due("not the second", x.judge(), 1);
    }

    void promise18_inByLotCantOutCan() {
        LastName x = town(3, 0, 1, 1);
        x.row(0, 1);
        x.row(1, 1);
        c.due("out by lot", x.judge(), -1);
        x.row(0, 0);
        c.due("in by an empty gate", x.judge(), 2);
        x.row(-1, 0);
        x.row(0, 1);
        x.row(0, 1);
        c.due("in by lot of one name", x.judge(), 1);
        kept("nothing is drawn", RowEdgesTest::inByLot, LastName::judge, 1);
    }

    private static LastName inByLot() {
        LastName x = town(3, 0, 1, 1);
        x.row(0, 1);
        x.row(1, 1);
        x.go(0, 1);
        x.row(-1, 0);
        x.row(1, 1);
        x.row(0, 1);
        return x;
    }

    void promise18_byTheHourOfNow() {
        LastName x = ruled(town(1, 0, 1, 0), "bars hour>5 and in=1;");
        x.row(0, 0);
        x.row(0, 0);
        x.hour(6);
        c.due("in at 6", x.judge(), 1);
        x.hour(5);
        c.due("in at 5", x.judge(), -1);
    }

    void promise18_whatIsBarredCantBe() {
        LastName x = ruled(town(2, 0, 1, 0), "bars size>0 and in=0;");
        x.row(0, 0);
        x.row(1, 0);
        c.due("the second finds a name there", x.judge(), 1);
        x.by(-1);
        c.due("without the law", x.judge(), -1);
    }

    void promise19_theyAreTriedFromNow() {
        kept("then", () -> rowWith(11, -1), x -> x.then(0), -1);
        kept("then", () -> rowWith(12, -1), x -> x.then(0), 0);
        LastName x = rowWith(1, -1);
        c.due("behind it he is outside", x.then(0), -1);
        x.go(0, 0);
        c.due("from now on he is inside", x.then(0), 0);
    }

    /** The NAMES of 0, 1 and 2 hang at the GATE 0, the oldest first, and 3 is OUTSIDE. */
    private static LastName threeHang() {
        LastName x = town(3, 1, 1, 1);
        for (int who = 0; who < 3; who++) {
            x.go(who, 0);
        }
        return x;
    }

    void promise19_theyTakeByTheText() {
        LastName x = threeHang();
        x.row(3, 0);
        x.row(1, 0);
        c.due("3: the latest", x.then(3), 2);
        c.due("1: the next", x.then(1), 1);
        ruled(x, "take 0-place;");
        c.due("3: the oldest", x.then(3), 0);
        c.due("1: the next", x.then(1), 1);
        ruled(x, "take own;");
        c.due("1: his own", x.then(1), 1);
        c.due("3: the latest, as none is his", x.then(3), 2);
        c.due("nobody has come in", x.about(9), 0);
    }

    void promise19_ofAnEmptyRowItIsAsNow() {
        LastName x = town(2, 1, 1, 0);
        c.due("0", x.then(0), 0);
        c.due("1", x.then(1), 1);
        c.due("2 is outside", x.then(2), -1);
    }

    void promise19_minus2ForOthers() {
        keptOfEach("then", Edges::busy, beside(0, 4), (x, who) -> x.then(who), -2);
        LastName x = town(2, 1, 1, 0);
        c.due("the last one", x.then(2), -1);
        c.due("behind him", x.then(3), -2);
        c.due("of nobody", new LastName().then(0), -2);
    }

    void promise19_minus2IfItCantBeDoneToItsEnd() {
        for (int cant : new int[] {0, 1, 11}) {
            kept("the row can't", () -> rowWith(12, cant), x -> x.then(1), -2);
        }
        c.due("it can", rowWith(12, -1).then(1), 1);
        c.due("in by lot can't", inByLot().then(2), -2);
    }

    void promise20_theUpperAndTheLower() {
        keptOfEach("what", RowEdgesTest::lots, beside(0, 1), (x, what) -> x.chance(1, 1, what), -1);
        kept("upper", RowEdgesTest::lots, x -> x.chance(1, 1, 0), 1);
        kept("lower", RowEdgesTest::lots, x -> x.chance(1, 1, 1), 2);
    }

    /** 0 and 1 go out by lot, then 1 comes in. */
    private static LastName lots() {
        LastName x = town(2, 1, 1, 1);
        x.row(0, 1);
        x.row(1, 1);
        x.row(1, 1);
        return x;
    }

    void promise20_noneForOthers() {
        keptOfEach("who", RowEdgesTest::lots, beside(0, 2), (x, who) -> x.chance(who, 0, 0), -1);
        keptOfEach("name", RowEdgesTest::lots, beside(-1, 7), (x, name) -> x.chance(1, name, 0), -1);
        keptOfEach("name", RowEdgesTest::lots, beside(-1, 7), (x, name) -> x.chance(1, name, 1), -1);
        LastName x = lots();
        c.due("the last one", x.chance(2, -1, 0), 1);
        c.due("the last name", x.chance(2, 7, 0), 0);
        c.due("its lower", x.chance(2, 7, 1), 1);
        c.due("of nobody", new LastName().chance(0, -1, 0), -1);
    }

    void promise20_ofAnEmptyRowItIsSoOrNot() {
        LastName x = town(2, 1, 1, 1);
        long[][] due = {{0, 0, 1}, {0, 1, 0}, {0, -1, 0}, {1, 1, 1}, {2, -1, 1}, {2, 0, 0}, {2, 2, 0}};
        for (long[] d : due) {
            c.due("upper", x.chance((int) d[0], (int) d[1], 0), d[2]);
            c.due("lower", x.chance((int) d[0], (int) d[1], 1), 1);
        }
    }

    /** So many GOINGS at the GATE of LOT, of one man, and others at one without. */
    private static LastName rowOfLots(int lots, int others) {
        LastName x = town(2, 0, 1, 1);
        for (int i = 0; i < lots; i++) {
            x.row(0, 1);
        }
        for (int i = 0; i < others; i++) {
            x.row(1, 0);
        }
        return x;
    }

    void promise20_withoutLotByTheTextByLotWithoutIt() {
        LastName x = threeHang();
        x.row(3, 0);
        c.due("the latest", x.chance(3, 2, 0), 1);
        ruled(x, "take 0-place;");
        c.due("the oldest", x.chance(3, 0, 0), 1);
        c.due("for sure", x.chance(3, 0, 1), 1);
        c.due("the latest not", x.chance(3, 2, 0), 0);
        LastName y = ruled(town(2, 1, 1, 1), "take 0-place;");
        y.row(0, 1);
        y.row(1, 1);
        y.row(2, 1);
        c.due("by lot the oldest", y.chance(2, 0, 1), 2);
        c.due("by lot the latest", y.chance(2, 1, 1), 2);
    }

    void promise20_sixAtGatesOfLotAreTheMost() {
        for (int others : new int[] {0, 5, 6}) {
            c.due("five", rowOfLots(5, others).chance(0, -1, 0), 1);
            c.due("six", rowOfLots(6, others).chance(0, 0, 0), 1);
            c.due("six of others", rowOfLots(6, others).chance(1, others % 2 == 0 ? 1 : -1, 0), 1);
        }
        for (int others : new int[] {0, 4, 5}) {
            kept("seven", () -> rowOfLots(7, others), x -> x.chance(0, -1, 0), -1);
            kept("seven", () -> rowOfLots(7, others), x -> x.chance(0, -1, 1), -1);
        }
        kept("twelve", () -> rowOfLots(12, 0), x -> x.chance(0, 0, 0), -1);
        c.due("twelve without lot", rowOfLots(0, 12).chance(1, 1, 0), 1);
    }

    void promise20_thoseAtTwoGatesOfLotCountTogether() {
        LastName x = town(2, 0, 0, 2);
        for (int i = 0; i < 6; i++) {
            x.row(i % 2, i % 2);
        }
        c.due("three and three", x.chance(0, -1, 0), 1);
        x.row(0, 0);
        c.due("one more", x.chance(0, -1, 0), -1);
    }

    /** All of 8 are out by lot, and some draw one behind the other. */
    private static LastName allDraw(int drawing) {
        LastName x = town(8, 0, 0, 1);
        for (int i = 0; i < 8; i++) {
            x.go(i, 0);
        }
        for (int i = 0; i < drawing; i++) {
            x.row(i, 0);
        }
        return x;
    }

    void promise20_eachNameIsAsLikely() {
        LastName x = allDraw(6);
        for (int who = 0; who < 8; who++) {
            for (int name = 0; name < 8; name++) {
                c.due("upper", x.chance(who, name, 0), who < 6 ? 1 : 0);
                c.due("lower", x.chance(who, name, 1), who < 6 ? 8 : 1);
            }
            c.due("outside", x.chance(who, -1, 0), who < 6 ? 0 : 1);
        }
    }

    void promise20_allEightNamesAtEachGate() {
        for (int gate = 0; gate < 3; gate++) {
            LastName x = town(8, 0, 0, 3);
            for (int i = 0; i < 8; i++) {
                x.go(i, gate);
            }
            x.row(0, gate);
            x.row(1, gate);
            c.due("the latest", x.chance(1, 7, 0), 1);
            c.due("of", x.chance(1, 7, 1), 8);
            c.due("the oldest", x.chance(1, 0, 1), 8);
            c.due("outside", x.chance(2, -1, 0), 1);
        }
    }

    void promise20_inLowestTerms() {
        LastName x = allDraw(0);
        ruled(x, "bars in=0 and who<2 and name>2;");
        // 0 draws, and goes out again if he drew 0, 1 or 2
        x.row(0, 0);
        x.row(0, 0);
        c.due("upper", x.chance(0, -1, 0), 3);
        c.due("lower", x.chance(0, -1, 1), 8);
        x.row(0, 0);
        c.due("drawn at once, or at the second draw", x.chance(0, 7, 0), 11);
        c.due("of", x.chance(0, 7, 1), 64);
        c.due("drawn at the second draw alone", x.chance(0, 1, 0), 3);
        c.due("of", x.chance(0, 1, 1), 64);
        c.due("outside never", x.chance(0, -1, 0), 0);
        c.due("of", x.chance(0, -1, 1), 1);
    }

    /** Three draws by 8, each with a going out between: who keeps what he likes ends with the rest. */
    void promise20_theLowerOneCanBeGreat() {
        LastName x = allDraw(0);
        ruled(x, "bars in=0 and name>0;");
        for (int i = 0; i < 6; i++) {
            x.row(0, 0);
        }
        c.due("0 at each of three draws, out each time", x.chance(0, -1, 0), 1);
        c.due("of", x.chance(0, -1, 1), 512);
        c.due("1 at one of them", x.chance(0, 1, 0), 73);
        c.due("of", x.chance(0, 1, 1), 512);
    }

    void promise20_whatCantBeIsLeftOut() {
        LastName x = town(1, 2, 1, 1);
        x.row(1, 1);
        x.row(2, 0);
        x.row(0, 1);
        x.row(2, 0);
        x.row(1, 1);
        x.row(2, 1);
        c.due("judged at once", x.judge(), 0);
        c.due("1 draws what hangs there", x.chance(1, 0, 0), 1);
        c.due("2 never comes in", x.chance(2, -1, 0), 1);
        x.by(-1);
        ruled(x, "bars who=1;");
        c.due("2 does, if 1 is barred", x.chance(2, 0, 0), 1);
    }
}
