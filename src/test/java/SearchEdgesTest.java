/** Boundaries of the promises on fewest goings, the third, the crowd, and the thief. */
public final class SearchEdgesTest extends Edges {
    public static void main(String[] args) throws ReflectiveOperationException {
        new SearchEdgesTest().runAll();
    }

    /** 0, 1 and 2 INSIDE, 3 OUTSIDE; two GATES and one of LOT. */
    private static LastName four() {
        return town(3, 1, 2, 1);
    }

    private void goings(LastName x, int goal, int a, int b, int set, int... due) {
        String call = "fewest " + goal + " " + a + " " + b + " of " + set;
        c.due(call, x.fewest(goal, a, b, set, -1), due.length);
        for (int k = 0; k < due.length; k++) {
            c.due(call + " at " + k, x.fewest(goal, a, b, set, k), due[k]);
        }
        for (int k : beside(-1, due.length - 1)) {
            c.due(call + " at " + k, x.fewest(goal, a, b, set, k), -1);
        }
    }

    void promise25_goalsFrom0To2() {
        goings(four(), 0, 0, 1, 15, 0, 10, 0);
        goings(four(), 1, 0, 1, 15, 0, 10, 0, 10);
        goings(four(), 2, 0, 1, 15);
        keptOfEach("goal", SearchEdgesTest::four, beside(0, 2), (x, goal) -> x.fewest(goal, 0, 1, 15, -1), -1);
        keptOfEach("goal", SearchEdgesTest::four, beside(0, 2), (x, goal) -> x.fewest(goal, 0, 0, 15, 0), -1);
    }

    void promise25_theKth() {
        for (int k : new int[] {-2, -1, 0, 1, 2, 3, 4, 5, Integer.MIN_VALUE, Integer.MAX_VALUE}) {
            int due = k == -1 ? 4 : k < 0 || k > 3 ? -1 : k % 2 == 0 ? 0 : 10;
            kept("at " + k, SearchEdgesTest::four, x -> x.fewest(1, 0, 1, 15, k), due);
        }
    }

    void promise25_ofNoGoingsNoneIsSuch() {
        for (int k : new int[] {-2, 0, 1}) {
            c.due("it is so at once, at " + k, four().fewest(0, 0, 0, 15, k), -1);
        }
        c.due("it is so at once", four().fewest(0, 0, 0, 15, -1), 0);
    }

    void promise25_setsOfPeopleThatThereAre() {
        for (int people = 0; people <= 8; people++) {
            LastName x = town(people, 0, 1, 0);
            int all = (1 << people) - 1;
            c.due("nobody of " + people, x.fewest(2, 0, 0, 0, -1), 0);
            c.due("all of " + people, x.fewest(2, 0, 0, all, -1), 0);
            for (int set : beside(0, all)) {
                if (set < 0 || set > all) {
                    c.due("set " + set + " of " + people, x.fewest(2, 0, 0, set, -1), -1);
                }
            }
        }
        keptOfEach("set", SearchEdgesTest::four, beside(0, 15), (x, set) -> x.fewest(0, 0, 1, set, -1), -1);
    }

    void promise25_onlyThoseOfTheSetGo() {
        goings(four(), 0, 3, 2, 15, 20, 30);
        goings(four(), 0, 3, 2, 12, 20, 30);
        c.due("without 2", four().fewest(0, 3, 2, 11, -1), -1);
        c.due("without 3", four().fewest(0, 3, 2, 7, -1), -1);
        c.due("nobody", four().fewest(0, 3, 2, 0, -1), -1);
        LastName x = town(8, 0, 1, 0);
        x.go(7, 0);
        goings(x, 0, 7, 7, 128, 70);
        goings(x, 0, 7, 6, 192, 60, 70);
    }

    void promise25_ofGoal0OneAndAName() {
        c.due("the last one", four().fewest(0, 3, 2, 15, -1), 2);
        keptOfEach("a", SearchEdgesTest::four, beside(0, 3), (x, a) -> x.fewest(0, a, 1, 15, -1), -1);
        keptOfEach("b", SearchEdgesTest::four, beside(0, 7), (x, b) -> x.fewest(0, 1, b, 15, -1), -1);
        LastName x = town(8, 0, 1, 0);
        goings(x, 0, 7, 7, 0);
        goings(x, 0, 7, 0, 129, 70, 0, 70);
        c.due("a name that there isn't", town(2, 0, 1, 0).fewest(0, 0, 7, 3, -1), -1);
        c.due("without people", new LastName().fewest(0, 0, 0, 0, -1), -1);
    }

    void promise25_whoIsOutsideHasNoNameNone() {
        kept("the name -1", SearchEdgesTest::four, x -> x.fewest(0, 3, -1, 15, -1), -1);
        kept("the name -1, by a going", SearchEdgesTest::four, x -> x.fewest(0, 0, -1, 15, -1), -1);
    }

    void promise25_ofGoal1TwoThatAreUnlikeAndInside() {
        kept("two", SearchEdgesTest::four, x -> x.fewest(1, 0, 2, 15, -1), 4);
        for (int one = 0; one < 4; one++) {
            int like = one;
            kept("like ones", SearchEdgesTest::four, x -> x.fewest(1, like, like, 15, -1), -1);
        }
        for (int one = 0; one < 3; one++) {
            int inside = one;
            kept("b is outside", SearchEdgesTest::four, x -> x.fewest(1, inside, 3, 15, -1), -1);
            kept("a is outside", SearchEdgesTest::four, x -> x.fewest(1, 3, inside, 15, -1), -1);
        }
        keptOfEach("a", SearchEdgesTest::four, beside(0, 2), (x, a) -> x.fewest(1, a, 1, 15, -1), -1);
        keptOfEach("b", SearchEdgesTest::four, beside(0, 2), (x, b) -> x.fewest(1, 1, b, 15, -1), -1);
    }

    void promise25_ofGoal1TheNamesThatTheyHaveNow() {
        LastName x = town(2, 1, 1, 0);
        x.go(0, 0);
        x.go(2, 0);
        goings(x, 1, 1, 2, 7, 10, 20, 10, 20);
        goings(x, 1, 2, 1, 7, 10, 20, 10, 20);
        c.due("with 0 too", x.third(1, 2), 0);
        c.due("0 is outside now", x.fewest(1, 0, 1, 7, -1), -1);
    }

    /** The NAMES of 0, 1 and 2 hang at the GATE 0, the oldest first, and 3 is OUTSIDE. */
    private static LastName threeHang() {
        LastName x = four();
        for (int who = 0; who < 3; who++) {
            x.go(who, 0);
        }
        return x;
    }

    void promise25_theyTakeByTheText() {
        LastName x = threeHang();
        goings(x, 0, 3, 2, 15, 30);
        ruled(x, "take 0-place;");
        goings(x, 0, 3, 2, 15, 0, 10, 30);
        goings(x, 0, 3, 0, 15, 30);
        ruled(x, "take own;bars hour=4 and who=3;");
        goings(x, 0, 3, 1, 15, 20, 30);
        goings(x, 2, 0, 0, 15, 0, 10, 20);
        x.hour(4);
        c.due("3 can't at that hour", x.fewest(0, 3, 1, 15, -1), -1);
    }

    void promise25_ofGoal2AAndBDontMatter() {
        for (int any : new int[] {-2, -1, 0, 3, 4, 8, Integer.MIN_VALUE, Integer.MAX_VALUE}) {
            LastName x = four();
            x.go(1, 0);
            kept("a", SearchEdgesTest::four, y -> y.fewest(2, any, 0, 15, -1), 0);
            c.due("b", x.fewest(2, 0, any, 15, -1), 1);
            c.due("both", x.fewest(2, any, any, 15, 0), 10);
        }
    }

    void promise25_ofGoal2WhoIsBornOutsideDoesntCount() {
        LastName x = town(1, 2, 1, 0);
        goings(x, 2, 0, 0, 7);
        x.go(0, 0);
        x.go(1, 0);
        goings(x, 2, 0, 0, 7, 10, 0);
        LastName nobody = town(0, 3, 1, 0);
        goings(nobody, 2, 0, 0, 7);
    }

    void promise25_allEightNamesAtEachGate() {
        for (int gate = 0; gate < 3; gate++) {
            LastName x = allOut(gate);
            goings(x, 0, 5, 7, 255, 50 + gate);
            goings(x, 0, 5, 6, 255, gate, 50 + gate);
            goings(x, 0, 7, 5, 255, gate, 10 + gate, 70 + gate);
        }
    }

    /** All of 8 have left their NAMES at one of three GATES, the lowest first; each owes as much less as it hangs deeper. */
    private static LastName allOut(int gate) {
        LastName x = town(8, 0, 3, 0);
        for (int i = 0; i < 8; i++) {
            x.deed(i, i + 1);
            x.go(i, gate);
        }
        return x;
    }

    void promise25_withoutGatesOrByLotAloneNever() {
        c.due("without gates", town(2, 0, 0, 0).fewest(0, 0, 1, 3, -1), -1);
        c.due("by lot", town(2, 0, 0, 3).fewest(0, 0, 1, 3, -1), -1);
        LastName x = town(2, 0, 0, 1);
        x.gate(false);
        goings(x, 0, 0, 1, 3, 1, 11, 1);
        LastName hung = town(2, 0, 1, 1);
        hung.go(0, 1);
        c.due("what hangs at a gate of lot stays there", hung.fewest(0, 0, 0, 3, -1), -1);
    }

    void promise25_neverIsNoneForEachK() {
        for (int k : new int[] {-2, -1, 0, 1}) {
            kept("never", () -> ruled(town(2, 0, 1, 0), "take own;"), x -> x.fewest(1, 0, 1, 3, k), -1);
        }
    }

    void promise25_ofLikeOnesByWhoThenGate() {
        LastName x = town(3, 0, 3, 0);
        goings(x, 0, 2, 0, 7, 0, 21, 20);
        goings(town(3, 0, 1, 0), 0, 2, 0, 7, 20, 0, 20);
        goings(town(2, 2, 3, 0), 0, 3, 1, 15, 10, 30);
    }

    void promise25_the3000thStateCounts() {
        LastName x = town(6, 2, 2, 0);
        x.go(5, 1);
        c.due("it is the 3000th", x.fewest(1, 2, 4, 255, -1), 4);
        LastName y = town(6, 0, 3, 0);
        y.go(0, 1);
        y.go(5, 1);
        c.due("it is the 3000th", y.fewest(1, 2, 3, 63, -1), 4);
        kept("there are 3000", SearchEdgesTest::with3000States, z -> z.fewest(0, 1, 7, 30, -1), -1);
        c.due("for each k", with3000States().fewest(0, 1, 7, 30, 0), -1);
    }

    void promise25_the3001stStateEndsIt() {
        LastName x = town(7, 0, 1, 0);
        for (int who : new int[] {2, 0, 6, 5, 1}) {
            x.go(who, 0);
        }
        c.due("it would be the 3001st", x.fewest(0, 4, 0, 127, -1), -2);
        kept("there are 3001", SearchEdgesTest::with3001States, z -> z.fewest(0, 4, 7, 48, -1), -2);
        for (int k : new int[] {0, 1, 2999, 3000, Integer.MAX_VALUE}) {
            c.due("for k " + k, with3001States().fewest(0, 4, 7, 48, k), -2);
        }
    }

    private static LastName with3000States() {
        LastName x = town(6, 0, 2, 0);
        x.go(3, 0);
        x.go(0, 1);
        return ruled(x, "bars (who+size+gate)%4=1;bars size>1;");
    }

    private static LastName with3001States() {
        LastName x = town(6, 0, 3, 0);
        x.go(1, 2);
        x.go(2, 2);
        x.go(3, 1);
        return ruled(x, "bars name+gate=4;");
    }

    void promise25_whatIsSpentForAllIsFoundByFewer() {
        LastName x = town(8, 0, 3, 0);
        x.go(7, 0);
        c.due("all but him", x.fewest(2, 0, 0, 127, -1), -2);
        c.due("he at once", x.fewest(2, 0, 0, 255, -1), 1);
        c.due("nobody", x.fewest(2, 0, 0, 0, -1), -1);
    }

    void promise26_noneForOthersAsGoal1() {
        for (int one = 0; one < 4; one++) {
            int like = one;
            kept("like ones", SearchEdgesTest::four, x -> x.third(like, like), -1);
        }
        kept("b is outside", SearchEdgesTest::four, x -> x.third(0, 3), -1);
        kept("a is outside", SearchEdgesTest::four, x -> x.third(3, 0), -1);
        keptOfEach("a", SearchEdgesTest::four, beside(0, 2), (x, a) -> x.third(a, 1), -1);
        keptOfEach("b", SearchEdgesTest::four, beside(0, 2), (x, b) -> x.third(1, b), -1);
        c.due("of nobody", new LastName().third(0, 1), -1);
    }

    void promise26_theLowestOtherOne() {
        kept("of 0 and 1", SearchEdgesTest::four, x -> x.third(0, 1), 2);
        kept("of 0 and 2", SearchEdgesTest::four, x -> x.third(0, 2), 1);
        kept("of 2 and 1", SearchEdgesTest::four, x -> x.third(2, 1), 0);
        LastName x = ruled(town(7, 1, 1, 0), "take own;");
        c.due("only who takes any name", x.third(0, 1), 7);
        ruled(x, "take own*(who-5);");
        c.due("he too", x.third(0, 1), 2);
    }

    void promise26_noneWithoutAThird() {
        c.due("of two", town(2, 0, 1, 0).third(0, 1), -1);
        c.due("of three", town(3, 0, 1, 0).third(0, 1), 2);
        c.due("without gates", town(3, 0, 0, 0).third(0, 1), -1);
        c.due("by lot", town(3, 0, 0, 1).third(0, 1), -1);
        c.due("each takes his own", ruled(town(3, 0, 1, 0), "take own;").third(0, 1), -1);
    }

    /** Under a law by which nobody comes in by the last names it takes one more to hang his, or two. */
    void promise26_byTheseThreeAlone() {
        LastName x = ruled(town(4, 0, 1, 0), "bars in=1 and size<2;");
        c.due("the two can't", x.fewest(1, 0, 1, 3, -1), -1);
        c.due("with 2 they can", x.third(0, 1), 2);
        ruled(x, "bars in=1 and size<3;");
        c.due("with all they can", x.fewest(1, 0, 1, 15, -1), 6);
        c.due("with one they can't", x.third(0, 1), -1);
    }

    void promise26_noneIfItWasSpent() {
        LastName x = town(7, 0, 3, 0);
        x.go(4, 0);
        x.go(6, 1);
        x.go(2, 2);
        ruled(x, "take own*10-place;");
        for (int third : new int[] {0, 1, 2, 4, 6}) {
            c.due("spent with " + third, x.fewest(1, 5, 3, 1 << 5 | 1 << 3 | 1 << third, -1), -2);
        }
        c.due("none", x.third(5, 3), -1);
    }

    void promise26_behindOneByWhomItWasSpentTheNextIsTried() {
        LastName x = town(6, 0, 2, 0);
        int[][] before = {{3, 0}, {4, 1}, {0, 0}, {0, 1}, {1, 1}};
        for (int[] g : before) {
            x.go(g[0], g[1]);
        }
        ruled(x, "take own*10-place;");
        c.due("spent with 0", x.fewest(1, 5, 2, 1 << 5 | 1 << 2 | 1, -1), -2);
        c.due("1 can", x.fewest(1, 5, 2, 1 << 5 | 1 << 2 | 2, -1) > 0, true);
        c.due("third", x.third(5, 2), 1);
    }

    void promise27_sixOutsideAreTheMost() {
        int[] orders = {1, 1, 2, 6, 24, 120, 720};
        for (int outside = 0; outside <= 6; outside++) {
            int out = outside;
            kept("in all orders of " + outside, () -> town(2, out, 1, 0), x -> x.left(0, 0, 0), orders[outside]);
        }
        kept("seven", () -> town(1, 7, 1, 0), x -> x.left(0, 0, 0), -1);
        kept("eight", () -> town(0, 8, 1, 0), x -> x.left(0, 0, -1), -1);
        LastName x = town(8, 0, 2, 0);
        for (int i = 0; i < 6; i++) {
            x.go(i, 0);
        }
        c.due("six", x.left(0, 5, 0), 120);
        c.due("six by an empty gate", x.left(1, 5, -1), 720);
        x.go(6, 1);
        c.due("a seventh by another gate", x.left(0, 5, 0), -1);
        x.go(5, 0);
        c.due("six again", x.left(1, 0, 6), 120);
    }

    void promise27_noneForOthers() {
        int[] gates = {-1, 3, -2, 4, Integer.MIN_VALUE, Integer.MAX_VALUE};
        keptOfEach("gate", SearchEdgesTest::four, gates, (x, gate) -> x.left(gate, 0, 0), -1);
        keptOfEach("who", SearchEdgesTest::four, beside(0, 3), (x, who) -> x.left(0, who, 0), -1);
        keptOfEach("name", SearchEdgesTest::four, beside(-1, 7), (x, name) -> x.left(0, 0, name), -1);
        LastName x = four();
        c.due("the last one without lot, the last one, outside", x.left(1, 3, -1), 1);
        c.due("the last name", x.left(1, 3, 7), 0);
        c.due("of nobody", new LastName().left(0, 0, 0), -1);
    }

    void promise27_noneAtAGateOfLot() {
        kept("by lot", SearchEdgesTest::four, x -> x.left(2, 0, 0), -1);
        kept("beside it", SearchEdgesTest::four, x -> x.left(1, 0, 0), 1);
        LastName x = town(2, 0, 0, 1);
        x.go(0, 0);
        c.due("with a name there", x.left(0, 0, 0), -1);
    }

    void promise27_ofNobodyOutsideOneOrder() {
        LastName x = town(3, 0, 1, 0);
        c.due("his own", x.left(0, 2, 2), 1);
        c.due("another one's", x.left(0, 2, 1), 0);
        c.due("outside", x.left(0, 2, -1), 0);
    }

    void promise27_theyTakeByTheText() {
        LastName x = threeHang();
        c.due("2 for who is first", x.left(0, 3, 2), 6);
        c.due("or for 2 himself", x.left(0, 2, 2), 6);
        ruled(x, "take own;");
        c.due("if he comes before 2", x.left(0, 3, 2), 12);
        c.due("else 2 has his own", x.left(0, 2, 2), 12);
        ruled(x, "take own;bars who=3 and hour<1;");
        c.due("without 3 all have their own", x.left(0, 2, 2), 24);
    }

    void promise27_whoCantIsLeftOut() {
        LastName x = town(1, 3, 1, 0);
        x.go(0, 0);
        for (int who = 0; who < 4; who++) {
            c.due("who is first has it", x.left(0, who, 0), 6);
            c.due("else he is outside", x.left(0, who, -1), 18);
        }
        ruled(x, "bars who=0;");
        c.due("0 never", x.left(0, 0, 0), 0);
        c.due("1 as one of three", x.left(0, 1, 0), 8);
        LastName all = ruled(town(2, 6, 1, 0), "bars in=1;");
        c.due("nobody can", all.left(0, 7, -1), 720);
    }

    void promise28_nFrom0To4() {
        for (int n = 0; n <= 4; n++) {
            int most = n;
            kept("n " + n, SearchEdgesTest::guilty, x -> x.thief(0, most), n < 2 ? 50 : n < 4 ? 40 : 30);
        }
        keptOfEach("n", SearchEdgesTest::guilty, beside(0, 4), (x, n) -> x.thief(0, n), -1);
    }

    /** The less a name owes, the deeper it hangs. */
    private static LastName guilty() {
        LastName x = town(4, 1, 2, 1);
        x.deed(0, 50);
        x.deed(3, 40);
        x.deed(2, 30);
        x.deed(1, 20);
        x.go(1, 0);
        x.go(2, 0);
        x.go(3, 0);
        return x;
    }

    void promise28_fourGoingsAreNotFive() {
        LastName x = guilty();
        c.due("in at once", x.thief(4, 1), 40);
        c.due("in, and out elsewhere", x.thief(4, 2), 40);
        c.due("and in with the next", x.thief(4, 3), 30);
        c.due("a fourth doesn't help", x.thief(4, 4), 30);
        x.go(4, 0);
        x.go(4, 1);
        c.due("two less to do", x.thief(4, 3), 20);
    }

    void promise28_allEightNamesAtEachGate() {
        int[] due = {-1, 8, 8, 7, 7};
        for (int gate = 0; gate < 3; gate++) {
            for (int n = 0; n <= 4; n++) {
                c.due("n " + n, allOut(gate).thief(3, n), due[n]);
            }
        }
    }

    void promise28_noneForOthers() {
        keptOfEach("who", SearchEdgesTest::guilty, beside(0, 4), (x, who) -> x.thief(who, 1), -1);
        c.due("the last one", guilty().thief(4, 1), 40);
        c.due("of nobody", new LastName().thief(0, 0), -1);
    }

    void promise28_noneIfHeCantBeInside() {
        kept("by no goings", SearchEdgesTest::guilty, x -> x.thief(4, 0), -1);
        kept("without names", () -> town(2, 1, 2, 0), x -> x.thief(2, 4), -1);
        kept("without gates", () -> town(2, 1, 0, 0), x -> x.thief(2, 4), -1);
        kept("barred", () -> ruled(guilty(), "bars who=4;"), x -> x.thief(4, 4), -1);
    }

    void promise28_heTakesByTheText() {
        LastName x = guilty();
        c.due("the latest", x.thief(4, 1), 40);
        ruled(x, "take 0-place;");
        c.due("the oldest", x.thief(4, 1), 20);
        ruled(x, "take (place-1)*(1-place);bars hour=9;");
        c.due("the middle one", x.thief(4, 1), 30);
        x.hour(9);
        c.due("not at that hour", x.thief(4, 1), -1);
    }

    void promise28_aNameThatOwesNothingIsTheLeast() {
        c.due("he himself", town(1, 0, 1, 0).thief(0, 0), 0);
        LastName x = town(2, 1, 1, 0);
        x.deed(0, 1);
        x.go(1, 0);
        c.due("1", x.thief(0, 0), 1);
        c.due("1 is under his own", x.thief(0, 4), 1);
        c.due("0", x.thief(2, 1), 0);
    }

    void promise28_notByLot() {
        LastName x = town(2, 1, 0, 1);
        x.deed(0, 5);
        x.go(1, 0);
        c.due("he stays", x.thief(0, 4), 5);
        c.due("he stays outside", x.thief(2, 4), -1);
        x.gate(false);
        c.due("nothing hangs at the other", x.thief(2, 4), -1);
    }

    void promise28_upToSoManyAreAlsoFewer() {
        LastName x = town(2, 0, 1, 0);
        x.deed(1, 9);
        c.due("one would leave him outside", x.thief(1, 1), 9);
        c.due("three as well", x.thief(1, 3), 9);
        x.go(1, 0);
        c.due("in and out again would too", x.thief(1, 2), 9);
    }
}
