/** Boundaries of the promises on people, gates, the hour, goings, and who has which name. */
public final class TownEdgesTest extends Edges {
    public static void main(String[] args) throws ReflectiveOperationException {
        new TownEdgesTest().runAll();
    }

    void promise1_nobodyIsThereAtFirst() {
        LastName x = new LastName();
        int[] about = {0, 0, 0, 0, -1, 0, 0, 0, 0, 0, 5};
        for (int i = 0; i < about.length; i++) {
            c.due("about " + i, x.about(i), about[i]);
        }
        for (int name = 0; name < 8; name++) {
            c.due("called " + name, x.called(name), -1);
            c.due("owes " + name, x.owes(name), 0);
        }
        c.due("of", x.of(0, 0), -2);
        c.due("heap", x.heap(0, -1), -1);
        c.due("go", x.go(0, 0), -1);
        c.due("deed", x.deed(0, 1), -1);
        c.due("row", x.row(0, 0), -1);
        c.due("by", x.by(0), false);
        c.due("gone", x.gone(0), -1);
        c.due("fault", x.fault(0), -1);
        c.due("place", x.fault(1), -1);
    }

    void promise1_nothingIsFoundAtFirst() {
        LastName x = new LastName();
        c.due("judge", x.judge(), -1);
        c.due("then", x.then(0), -2);
        c.due("chance", x.chance(0, 0, 0), -1);
        c.due("chance", x.chance(0, -1, 1), -1);
        c.due("ways", x.ways(), 1);
        c.due("may", x.may(0), 0);
        c.due("ask", x.ask(0), -1);
        c.due("ask", x.ask(1), -1);
        c.due("all of nobody have their own", x.fewest(2, 0, 0, 0, -1), 0);
        c.due("fewest", x.fewest(0, 0, 0, 0, -1), -1);
        c.due("fewest", x.fewest(1, 0, 1, 0, -1), -1);
        c.due("third", x.third(0, 1), -1);
        c.due("left", x.left(0, 0, 0), -1);
        c.due("thief", x.thief(0, 0), -1);
        c.due("days", x.days(1), -1);
        c.due("image", x.image(), 0);
        c.due("back", x.back(), 0);
    }

    void promise1_theImageIsThisAtFirst() {
        LastName x = town(3, 1, 1, 1);
        ruled(x, "fee 5;");
        x.hour(3);
        x.go(0, 0);
        x.deed(1, 4);
        x.row(1, 1);
        x.line(true, -1, 0);
        x.seed(9);
        Check.read(x, "fee");
        c.due("back", x.back(), 0);
        LastName y = new LastName();
        Check.read(y, "fee");
        c.same("as a new one", View.of(x), View.of(y));
    }

    void promise1_the512thCallAnswers() {
        LastName x = town(1, 0, 1, 0);
        for (int i = 3; i <= 511; i++) {
            c.due("call " + i, x.go(0, 0), 0);
        }
        c.due("call 512", x.of(0, 2), 509);
    }

    /** What is told to one object doesn't come to another one that is used by turns with it. */
    void promise1_twoObjectsAreApart() {
        LastName x = new LastName();
        LastName y = new LastName();
        for (int i = 0; i < 3; i++) {
            c.due("person", x.person(true), i);
            c.due("gate", y.gate(true), i);
        }
        c.due("text", Check.read(x, "fee 9;"), 0);
        x.by(0);
        x.gate(false);
        x.seed(4);
        x.go(0, 0);
        x.image();
        c.due("nobody came to the other", y.about(0), 0);
        c.due("nor a gate to this", x.about(1), 1);
        c.due("nor a text to the other", y.by(0), false);
        c.due("nor a draw", y.about(10), 5);
        c.due("its image is that of a new one", y.back(), 0);
        c.due("and this one has its own", x.back(), 3);
        LastName[] all = {busy(), busy()};
        full();
        c.same("two like ones", View.of(all[0]), View.of(all[1]));
    }

    void promise2_theEighthIs7AndTheNinthNone() {
        for (boolean inside : new boolean[] {true, false}) {
            LastName x = new LastName();
            for (int i = 0; i < 8; i++) {
                c.due("person", x.person(inside), i);
                c.due("people", x.about(0), i + 1);
            }
            c.due("the ninth", x.person(inside), -1);
            c.due("people", x.about(0), 8);
        }
        kept("a ninth born inside", Edges::full, x -> x.person(true), -1);
        kept("a ninth born outside", Edges::full, x -> x.person(false), -1);
    }

    void promise2_hisNameIsHisNumberIfBornInside() {
        LastName x = new LastName();
        for (int i = 0; i < 8; i++) {
            boolean inside = i == 0 || i == 3 || i == 7;
            x.person(inside);
            c.due("name of " + i, x.of(i, 0), inside ? i : -1);
            c.due("called " + i, x.called(i), inside ? i : -1);
            c.due("born", x.of(i, 5), inside ? 1 : 0);
            c.due("paid", x.of(i, 1), 0);
            c.due("done", x.of(i, 2), 0);
        }
        c.due("inside", x.about(9), 3);
    }

    void promise2_whoComesLateHasHisOwnNameToo() {
        LastName x = town(1, 0, 1, 0);
        x.go(0, 0);
        c.due("he is 1", x.person(true), 1);
        c.due("his name", x.of(1, 0), 1);
        c.due("who is out stays out", x.of(0, 0), -1);
    }

    void promise2_whoIsBornOutsideHasNoOwnName() {
        LastName x = ruled(town(2, 1, 1, 0), "take own*9-place;");
        x.go(0, 0);
        x.go(1, 0);
        c.due("nothing is his own: the oldest", x.go(2, 0), 0);
    }

    void promise3_theThirdIs2AndTheFourthNone() {
        for (boolean lot : new boolean[] {true, false}) {
            LastName x = new LastName();
            for (int i = 0; i < 3; i++) {
                c.due("gate", x.gate(lot), i);
                c.due("gates", x.about(1), i + 1);
            }
            c.due("the fourth", x.gate(lot), -1);
            c.due("gates", x.about(1), 3);
        }
        kept("a fourth", Edges::full, x -> x.gate(false), -1);
        kept("a fourth of lot", Edges::full, x -> x.gate(true), -1);
    }

    void promise3_itsHeapHasNothingAtFirst() {
        for (int lots = 0; lots < 2; lots++) {
            LastName x = town(0, 1, 1 - lots, lots);
            c.due("how many", x.heap(0, -1), 0);
            c.due("the oldest", x.heap(0, 0), -1);
            c.due("nobody can come in", x.go(0, 0), -1);
        }
    }

    void promise3_ofLotOrNot() {
        LastName x = town(2, 1, 1, 1);
        x.row(0, 0);
        x.row(2, 0);
        c.due("in without lot can be", x.judge(), -1);
        x.row(1, 1);
        x.row(0, 1);
        c.due("in by lot can't", x.judge(), 3);
    }

    void promise4_from0To23() {
        LastName x = new LastName();
        c.due("at first", x.about(2), 0);
        for (int h : new int[] {23, 0, 1, 22}) {
            c.due("hour " + h, x.hour(h), true);
            c.due("hour", x.about(2), h);
        }
    }

    void promise4_falseForOthers() {
        for (int h : new int[] {-1, 24, -24, 25, Integer.MIN_VALUE, Integer.MAX_VALUE}) {
            kept("hour " + h, Edges::busy, x -> bit(x.hour(h)), 0);
        }
    }

    void promise4_lawsSeeTheHour() {
        LastName x = ruled(town(1, 0, 1, 0), "fee 100+hour;");
        x.go(0, 0);
        c.due("at first 0", x.of(0, 1), 100);
        x.hour(23);
        x.go(0, 0);
        c.due("the last", x.of(0, 1), 223);
        x.hour(24);
        x.go(0, 0);
        c.due("it stays", x.of(0, 1), 346);
    }

    void promise11_withoutAnyNameHeCantComeIn() {
        kept("in by an empty gate", () -> ruled(town(2, 1, 2, 0), "fee 7;"), x -> x.go(2, 1), -1);
        kept("in by an empty gate of lot", () -> town(2, 1, 1, 1), x -> x.go(2, 1), -1);
        LastName x = town(1, 1, 1, 0);
        c.due("none yet", x.go(1, 0), -1);
        x.go(0, 0);
        c.due("one", x.go(1, 0), 0);
        c.due("none again", x.go(0, 0), -1);
    }

    void promise11_aHeapHoldsAllEightNames() {
        for (int gate = 0; gate < 3; gate++) {
            LastName x = town(8, 0, 3, 0);
            for (int who = 0; who < 8; who++) {
                c.due("out", x.go(who, gate), who);
                c.due("the latest", x.heap(gate, who), who);
            }
            c.due("how many", x.heap(gate, -1), 8);
            c.due("nobody is inside", x.about(9), 0);
            for (int who = 0; who < 8; who++) {
                c.due("in: the latest", x.go(who, gate), 7 - who);
            }
            c.due("none is left", x.heap(gate, -1), 0);
        }
    }

    void promise11_itCantBeIfABarsClauseIsSo() {
        String law = "fee 7;bars in=0 and name=1;bars in=1 and size<2;";
        kept("out under 1", () -> ruled(town(3, 1, 1, 1), law), x -> x.go(1, 0), -1);
        kept("in by one name", () -> ruled(oneHung(), law), x -> x.go(3, 0), -1);
        kept("in by one name by lot", () -> ruled(oneHung(), law), x -> x.go(3, 1), -1);
        LastName x = ruled(town(3, 1, 1, 1), law);
        c.due("out under 0", x.go(0, 0), 0);
        c.due("out under 2", x.go(2, 0), 2);
        c.due("in by two names", x.go(3, 0), 2);
        c.due("paid", x.of(3, 1), 7);
    }

    /** A name at the gate, and one at that of lot. */
    private static LastName oneHung() {
        LastName x = town(3, 1, 1, 1);
        x.go(0, 0);
        x.go(2, 1);
        return x;
    }

    void promise11_othersCant() {
        for (int who : new int[] {-1, 5, -2, 8}) {
            kept("who " + who, Edges::busy, x -> x.go(who, 0), -1);
        }
        for (int gate : new int[] {-1, 2, -2, 3}) {
            kept("gate " + gate, Edges::busy, x -> x.go(2, gate), -1);
        }
        for (int far : FAR) {
            kept("who " + far, Edges::busy, x -> x.go(far, 0), -1);
            kept("gate " + far, Edges::busy, x -> x.go(2, far), -1);
        }
        c.due("the last one by the last gate", busy().go(3, 1), 3);
    }

    void promise12_minus2ForOthers() {
        LastName x = busy();
        for (int what = 0; what <= 5; what++) {
            c.due("one before the first", x.of(-1, what), -2);
            c.due("one behind the last", x.of(5, what), -2);
        }
        for (int who = 0; who <= 4; who++) {
            c.due("what -1", x.of(who, -1), -2);
            c.due("what 6", x.of(who, 6), -2);
        }
        for (int far : FAR) {
            c.due("who " + far, x.of(far, 0), -2);
            c.due("what " + far, x.of(0, far), -2);
        }
        c.due("the last one", x.of(4, 5), 0);
        kept("others", Edges::busy, y -> y.of(5, 6), -2);
    }

    void promise12_whereNothingIsYetItIs0() {
        LastName x = town(1, 1, 1, 0);
        int[][] due = {{0, 0, 0, 0, 0, 1}, {-1, 0, 0, 0, 0, 0}};
        for (int who = 0; who < 2; who++) {
            for (int what = 0; what <= 5; what++) {
                c.due("of " + who + " " + what, x.of(who, what), due[who][what]);
            }
        }
    }

    void promise12_whoIsOutsideHasNoNameAndOwesNothing() {
        LastName x = town(1, 0, 1, 0);
        x.deed(0, 9);
        c.due("inside he owes", x.of(0, 3), 9);
        x.go(0, 0);
        c.due("no name", x.of(0, 0), -1);
        c.due("owes", x.of(0, 3), 0);
        c.due("but did it", x.of(0, 4), 9);
        c.due("the name owes it", x.owes(0), 9);
        x.go(0, 0);
        c.due("inside again", x.of(0, 3), 9);
    }

    void promise12_aGoingThatCantBeDoesntCount() {
        LastName x = town(1, 1, 1, 0);
        x.go(1, 0);
        c.due("paid", x.of(1, 1), 0);
        c.due("done", x.of(1, 2), 0);
        x.go(0, 0);
        x.go(1, 0);
        c.due("paid", x.of(1, 1), 1);
        c.due("done", x.of(1, 2), 1);
    }

    void promise12_allFeesOfManyGoings() {
        LastName x = ruled(town(1, 0, 1, 0), "fee 9999;");
        for (int i = 0; i < 300; i++) {
            x.go(0, 0);
        }
        c.due("300 times 999", x.of(0, 1), 299700);
        for (int i = 0; i < 100; i++) {
            x.days(100);
        }
        c.due("and 10000 more", x.of(0, 1), 10289700);
        c.due("goings", x.of(0, 2), 10300);
    }

    void promise13_namesFrom0To7() {
        LastName x = town(8, 0, 1, 0);
        c.due("the first", x.called(0), 0);
        c.due("the last", x.called(7), 7);
        c.due("one less", x.called(-1), -1);
        c.due("one more", x.called(8), -1);
        for (int far : FAR) {
            c.due("called " + far, x.called(far), -1);
        }
        kept("called 8", Edges::busy, y -> y.called(8), -1);
    }

    void promise13_nobodyHasAName() {
        LastName x = town(2, 1, 1, 0);
        c.due("who is outside has no name -1", x.called(-1), -1);
        c.due("no such name", x.called(2), -1);
        x.go(1, 0);
        c.due("it hangs at a gate", x.called(1), -1);
        x.go(2, 0);
        c.due("he has it", x.called(1), 2);
    }

    void promise14_fromTheOldestToTheLatest() {
        LastName x = town(3, 0, 2, 0);
        for (int who : new int[] {2, 0, 1}) {
            x.go(who, 1);
        }
        int[] due = {3, 2, 0, 1, -1};
        for (int i = -1; i <= 3; i++) {
            c.due("at " + i, x.heap(1, i), due[i + 1]);
        }
        c.due("at -2", x.heap(1, -2), -1);
        for (int far : FAR) {
            c.due("at " + far, x.heap(1, far), -1);
        }
        c.due("how many at the other", x.heap(0, -1), 0);
        c.due("the oldest at the other", x.heap(0, 0), -1);
    }

    void promise14_theEighthName() {
        LastName x = town(8, 0, 1, 0);
        for (int who = 7; who >= 0; who--) {
            x.go(who, 0);
        }
        c.due("how many", x.heap(0, -1), 8);
        c.due("the latest", x.heap(0, 7), 0);
        c.due("behind it", x.heap(0, 8), -1);
    }

    void promise14_noneForOtherGates() {
        LastName x = town(1, 0, 2, 0);
        x.go(0, 1);
        c.due("the last gate", x.heap(1, -1), 1);
        for (int gate : new int[] {-1, 2, -2, 3, Integer.MIN_VALUE, Integer.MAX_VALUE}) {
            c.due("how many at " + gate, x.heap(gate, -1), -1);
            c.due("the oldest at " + gate, x.heap(gate, 0), -1);
        }
        kept("gate 2", Edges::busy, y -> y.heap(2, 0), -1);
    }

    void promise14_whatIsTakenFromTheMiddleLeavesNoGap() {
        LastName x = town(3, 1, 1, 0);
        for (int who = 0; who < 3; who++) {
            x.go(who, 0);
        }
        ruled(x, "take -(name-1)*(name-1);");
        c.due("the middle one", x.go(3, 0), 1);
        c.due("the oldest", x.heap(0, 0), 0);
        c.due("the latest", x.heap(0, 1), 2);
        c.due("behind it", x.heap(0, 2), -1);
    }
}
