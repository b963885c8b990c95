/** Boundaries of promise 11 under laws: what is taken, paid and barred, and how that is reckoned. */
public final class LawEdgesTest extends Edges {
    public static void main(String[] args) throws ReflectiveOperationException {
        new LawEdgesTest().runAll();
    }

    /** By that text 2 goes out by the gate 1, where 0 hangs, at HOUR 10, and in again: what he paid. */
    private void pays(String text, int out, int in) {
        LastName x = town(3, 0, 2, 0);
        x.go(0, 1);
        x.hour(10);
        ruled(x, text);
        c.due("it can be read: " + text, x.about(4), 0);
        c.due("out: " + text, x.go(2, 1), 2);
        c.due("paid as he went out: " + text, x.of(2, 1), out);
        c.due("in: " + text, x.go(2, 1), 2);
        c.due("paid as he came in: " + text, x.of(2, 1) - out, in);
    }

    /** The names 3 1 4 0 2 hang at the gate 1, the oldest first; who comes in there at HOUR 7, by that text. */
    private void takes(String text, int who, int name) {
        LastName x = town(5, 1, 2, 0);
        x.hour(7);
        for (int one : new int[] {3, 1, 4, 0, 2}) {
            x.go(one, 1);
        }
        ruled(x, text);
        c.due("it can be read: " + text, x.about(4), 0);
        c.due(who + " by " + text, x.go(who, 1), name);
        c.due("he has it", x.of(who, 0), name);
        c.due("four are left", x.heap(1, -1), 4);
    }

    void promise11_withoutTakeTheLatest() {
        takes("", 5, 2);
        takes("fee 1;bars 1=2;", 5, 2);
        LastName x = town(2, 0, 1, 0);
        x.go(0, 0);
        c.due("of one", x.go(0, 0), 0);
        x.go(1, 0);
        x.go(0, 0);
        c.due("of two", x.go(0, 0), 0);
    }

    void promise11_theGreatestTake() {
        takes("take place;", 5, 2);
        takes("take 0-place;", 5, 3);
        takes("take name;", 5, 4);
        takes("take -name;", 5, 0);
        takes("take name-9999;", 5, 4);
        takes("take -name-9999*9999/2;", 5, 0);
        takes("take (place-2)*(place-2)*-1;", 5, 4);
    }

    void promise11_ofLikeOnesTheLatest() {
        takes("take 0;", 5, 2);
        takes("take 0-1;", 5, 2);
        takes("take name/3;", 5, 4);
        takes("take name/2;", 5, 4);
        takes("take -(name/2);", 5, 0);
        takes("take (place-2)*(place-2);", 5, 2);
        takes("take 9999*9999+name;", 5, 2);
        takes("take 0-9999*9999-name;", 5, 2);
    }

    void promise11_placesAreFrom0On() {
        int[] names = {3, 1, 4, 0, 2};
        for (int place = 0; place < 5; place++) {
            takes("take 0-(place-" + place + ")*(place-" + place + ");", 5, names[place]);
        }
        takes("take 0-(place+1)*(place+1);", 5, 3);
        takes("take 0-(place-5)*(place-5);", 5, 2);
    }

    void promise11_ownIsOneForHisOwnAlone() {
        for (int who = 0; who < 5; who++) {
            takes("take own;", who, who);
            takes("take own-1;", who, who);
            takes("take -own;", who, who == 2 ? 0 : 2);
            takes("take 0-(own-1)*(own-1);", who, who);
            takes("take 0-own*own;", who, who == 2 ? 0 : 2);
        }
        takes("take own;", 5, 2);
        takes("take own*100-place;", 5, 3);
    }

    /** 0 is the number of who is born OUTSIDE too, but no NAME of his. */
    void promise11_whoIsBornOutsideHasNoOwn() {
        LastName x = new LastName();
        x.person(false);
        x.person(true);
        x.person(true);
        x.gate(false);
        x.go(1, 0);
        x.go(2, 0);
        ruled(x, "take own*100-place;");
        c.due("the oldest", x.go(0, 0), 1);
        x.go(0, 0);
        c.due("his own is the latest now", x.go(1, 0), 1);
    }

    void promise11_takeSeesTheGoing() {
        takes("take 0-(name-who)*(name-who);", 5, 4);
        takes("take 0-(name-who+1)*(name-who+1);", 4, 3);
        takes("take 0-(name-gate)*(name-gate);", 5, 1);
        takes("take 0-(name-size+2)*(name-size+2);", 5, 3);
        takes("take 0-(name-hour+4)*(name-hour+4);", 5, 3);
    }

    void promise11_takeDoesntMatterByLot() {
        LastName x = town(4, 0, 0, 1);
        for (int who = 0; who < 4; who++) {
            x.go(who, 0);
        }
        ruled(x, "take 0-place;");
        c.due("5 mod 4", x.go(0, 0), 1);
        c.due("a draw", x.about(10), 998);
    }

    void promise11_theFeeIs0AtLeast() {
        pays("fee 0-2;", 0, 0);
        pays("fee 0-1;", 0, 0);
        pays("fee 0;", 0, 0);
        pays("fee 1;", 1, 1);
        pays("fee 0-9999*9999;", 0, 0);
        pays("fee 2-3*in;", 2, 0);
    }

    void promise11_theFeeIs999AtMost() {
        pays("fee 998;", 998, 998);
        pays("fee 999;", 999, 999);
        pays("fee 1000;", 999, 999);
        pays("fee 9999*9999;", 999, 999);
        pays("fee 998+2*in;", 998, 999);
    }

    void promise11_withoutAFeeItIs1() {
        pays("", 1, 1);
        pays("take place;bars 1=2;go 1 by 1;", 1, 1);
        LastName x = town(1, 0, 1, 0);
        x.go(0, 0);
        c.due("without a text", x.of(0, 1), 1);
    }

    void promise11_theFeeIsAskedAhead() {
        pays("fee size;", 1, 2);
        pays("fee 10+name;", 12, 9);
        pays("fee 10+in;", 10, 11);
        pays("fee 10*who+gate;", 21, 21);
        pays("fee hour;", 10, 10);
    }

    void promise11_barsAreAskedAhead() {
        LastName x = ruled(town(2, 0, 1, 0), "bars in=0 and size=1;");
        c.due("as none hangs there", x.go(0, 0), 0);
        c.due("as one does", x.go(1, 0), -1);
        ruled(x, "bars in=1 and name#-1;");
        c.due("his name is -1 as he comes in", x.go(0, 0), 0);
        ruled(x, "bars in=0 and name#who;");
        c.due("and his own as he goes out", x.go(0, 0), 0);
        ruled(x, "bars in=1 and size#1;");
        c.due("one hangs there", x.go(0, 0), 0);
    }

    void promise11_oneOfTheBarsIsEnough() {
        String no = "bars 1=2;";
        for (int i = 0; i < 20; i++) {
            LastName x = ruled(town(1, 0, 1, 0), no.repeat(i) + "bars 1=1;" + no.repeat(19 - i));
            c.due("the text", x.about(4), 0);
            c.due("the bars at " + i, x.go(0, 0), -1);
        }
        c.due("none is so", ruled(town(1, 0, 1, 0), no.repeat(20)).go(0, 0), 0);
    }

    void promise11_aTextThatDoesntRuleBarsNothing() {
        LastName x = town(1, 0, 1, 0);
        Check.read(x, "bars 1=1;fee 50;");
        c.due("out", x.go(0, 0), 0);
        c.due("paid", x.of(0, 1), 1);
    }

    void promise11_above1000000ItIsThat() {
        so("999*1001=1000*1000-1", true);
        so("999*1001<1000*1000", true);
        so("999*1001+1=1000*1000", true);
        so("999*1001+2=1000*1000", true);
        so("999*1001+2>1000*1000", false);
        so("1000*1000+1-1=999*1001", true);
        so("1000*1000-1+1=1000*1000", true);
        so("1000*1001=1000*1000", true);
        so("9999*9999=1000*1000", true);
        so("1000*1000*(1000*1000)=1000*1000", true);
        so("(0-1000*1000)*(0-1000*1000)=1000*1000", true);
        so("1000*1000+1000*1000=1000*1000", true);
        so("0-(0-1000*1000-5)=1000*1000", true);
        so("-(-9999*9999)=1000*1000", true);
    }

    void promise11_belowTheSameLessItIsThat() {
        so("0-999*1001=1-1000*1000", true);
        so("0-999*1001>0-1000*1000", true);
        so("0-999*1001-1=0-1000*1000", true);
        so("0-999*1001-2=0-1000*1000", true);
        so("0-999*1001-2<0-1000*1000", false);
        so("0-1000*1000-1+1=0-999*1001", true);
        so("-1000*1001=-1000*1000", true);
        so("9999*-9999=0-1000*1000", true);
        so("-1000*1000*(1000*1000)=0-1000*1000", true);
        so("-1000*1000-1000*1000=-1000*1000", true);
    }

    void promise11_atEachStep() {
        so("9999*9999/9999=100", true);
        so("9999*9999-9999*9999=0", true);
        so("9999*9999*0=0", true);
        so("9999*9999%9999=100", true);
        so("1000*1000+5-5=1000*1000-5", true);
        so("1000*1000+(5-5)=1000*1000", true);
    }

    void promise11_fromTheLeft() {
        so("7-2-1=4", true);
        so("7-(2-1)=6", true);
        so("100/7/2=7", true);
        so("100/(7/2)=33", true);
        so("8/3*3=6", true);
        so("8*3/3=8", true);
        so("8%3*3=6", true);
        so("2*8%3=1", true);
        so("2+3*4=14", true);
        so("(2+3)*4=20", true);
        so("2-3+4=3", true);
        so("-2+3=1", true);
        so("-(2+3)=0-5", true);
        so("2*-3=-6", true);
        so("--5=5", true);
        so("---5=-5", true);
    }

    void promise11_divisionCutsTowards0() {
        int[][] due = {{6, 2, 3, 0}, {7, 2, 3, 1}, {8, 2, 4, 0}, {-6, 2, -3, 0}, {-7, 2, -3, -1}, {-8, 2, -4, 0}, {7, -2, -3, 1},
            {-7, -2, 3, -1}, {1, 2, 0, 1}, {-1, 2, 0, -1}, {2, 2, 1, 0}, {-2, 2, -1, 0}, {0, 2, 0, 0}, {0, -2, 0, 0}, {5, 1, 5, 0},
            {5, -1, -5, 0}};
        for (int[] d : due) {
            so(d[0] + "/" + d[1] + "=" + d[2], true);
            so(d[0] + "%" + d[1] + "=" + d[3], true);
        }
    }

    void promise11_by0BothAre0() {
        for (String what : new String[] {"5", "0", "-5", "9999*9999", "1"}) {
            so("(" + what + ")/0=0", true);
            so("(" + what + ")%0=0", true);
            so("(" + what + ")/(3-3)=0", true);
            so("(" + what + ")%size=0", true);
        }
        so("5/0+7=7", true);
        so("5%0-7=0-7", true);
    }

    void promise11_eachComparison() {
        String[] signs = {"<", "<=", ">", ">=", "=", "#"};
        boolean[][] due = {{true, false, false}, {true, true, false}, {false, false, true}, {false, true, true},
            {false, true, false}, {true, false, true}};
        for (int i = 0; i < signs.length; i++) {
            for (int left = 4; left <= 6; left++) {
                so(left + signs[i] + "5", due[i][left - 4]);
                so("hour" + signs[i] + (10 - left), due[i][left - 4]);
                so("0-1" + signs[i] + (4 - left), due[i][left - 4]);
            }
        }
    }

    /** What a comparison answers is as good under not, and, or as by itself. */
    void promise11_eachComparisonUnderOthers() {
        String[] signs = {"<", "<=", ">", ">=", "=", "#"};
        int[] so = {4, 5, 6, 5, 5, 4};
        int[] not = {5, 6, 5, 4, 6, 5};
        for (int i = 0; i < signs.length; i++) {
            String yes = so[i] + signs[i] + "5";
            String no = not[i] + signs[i] + "5";
            so("not " + yes, false);
            so("not " + no, true);
            so("not not " + yes, true);
            so("not not " + no, false);
            for (int j = 0; j < signs.length; j++) {
                so(yes + " and " + so[j] + signs[j] + "5", true);
                so(yes + " and " + not[j] + signs[j] + "5", false);
                so(no + " or " + so[j] + signs[j] + "5", true);
                so(no + " or " + not[j] + signs[j] + "5", false);
            }
        }
    }

    void promise11_andBindsCloserThanOr() {
        for (int bits = 0; bits < 8; bits++) {
            boolean a = (bits & 1) > 0;
            boolean b = (bits & 2) > 0;
            boolean d = (bits & 4) > 0;
            String[] asks = {a ? "1=1" : "1=0", b ? "2>1" : "2<1", d ? "3#4" : "3=4"};
            so(asks[0] + " or " + asks[1] + " and " + asks[2], a || b && d);
            so(asks[0] + " and " + asks[1] + " or " + asks[2], a && b || d);
            so(asks[0] + " or " + asks[1] + " or " + asks[2], a || b || d);
            so(asks[0] + " and " + asks[1] + " and " + asks[2], a && b && d);
            so("not " + asks[0] + " and " + asks[1] + " or not " + asks[2], !a && b || !d);
            so("not not " + asks[0] + " or not " + asks[1] + " and not not not " + asks[2], a || !b && !d);
        }
    }

    /** As much as can stand open: what is reckoned then is still all there. */
    void promise11_theDeepestSum() {
        so("1=0 or 1=1 and 1+2*(1+2*(1+2*(1+2*(1+2*(1+2*(1+2*(1+2*(1+2*1))))))))=1023", true);
        so("1=0 or 1=1 and 1023=1+2*(1+2*(1+2*(1+2*(1+2*(1+2*(1+2*(1+2*(1+2*1))))))))", true);
        so("not not not not 1+2*(1+2*(1+2*(1+2*1)))#31", false);
        so("--------7=7", true);
    }

    void promise11_goingsSeeNumbersAtTheirEnds() {
        so("9999=9998+1", true);
        so("0=1-1", true);
        so("who=2", true);
        so("gate=0", true);
        so("size=0", true);
        so("hour=5", true);
        so("in=0", true);
        so("name=2", true);
    }
}
