/** Each promise by hand: ordinary inputs, the edges that the document names, and wrong inputs. */
public final class PromiseTest {
    private static final int[] WRONG = {-3, -2, 8, 9, 100, Integer.MAX_VALUE, Integer.MIN_VALUE};
    private final Check c = new Check();

    public static void main(String[] args) {
        PromiseTest t = new PromiseTest();
        t.newObject();
        t.person();
        t.gate();
        t.hour();
        t.feedAndEnd();
        t.text();
        t.tokens();
        t.faults();
        t.faultOrder();
        t.depth();
        t.by();
        t.gone();
        t.go();
        t.take();
        t.sums();
        t.asks();
        t.feesAndBars();
        t.of();
        t.calledAndHeap();
        t.deedsAndOwes();
        t.rowJudgeThen();
        t.chance();
        t.line();
        t.ways();
        t.mayAndAsk();
        t.fewest();
        t.spent();
        t.third();
        t.left();
        t.thief();
        t.seedAndDays();
        t.imageAndBack();
        t.about();
        t.c.close("PromiseTest");
    }

    /** So many born INSIDE, then so many born OUTSIDE, and that many GATES without LOT. */
    private static LastName town(int inside, int outside, int gates) {
        LastName x = new LastName();
        for (int i = 0; i < inside + outside; i++) {
            x.person(i < inside);
        }
        for (int i = 0; i < gates; i++) {
            x.gate(false);
        }
        return x;
    }

    private static LastName ruled(LastName x, String text) {
        x.by(Check.read(x, text));
        return x;
    }

    private void faulty(String text, int fault, int place) {
        LastName x = new LastName();
        c.due("text of " + text, Check.read(x, text), fault == 0 ? 0 : -1);
        c.due("fault of " + text, x.fault(0), fault);
        c.due("place in " + text, x.fault(1), place);
    }

    private void newObject() {
        LastName x = new LastName();
        int[] about = {0, 0, 0, 0, -1, 0, 0, 0, 0, 0, 5};
        for (int i = 0; i < about.length; i++) {
            c.due("new about " + i, x.about(i), about[i]);
        }
        x.person(true);
        c.due("THE IMAGE at first", x.back(), 0);
        c.due("nobody", x.about(0), 0);
        c.due("NONE", LastName.NONE, -1);
        c.due("SPENT", LastName.SPENT, -2);
    }

    private void person() {
        LastName x = new LastName();
        for (int i = 0; i < 8; i++) {
            c.due("person " + i, x.person(i % 2 == 0), i);
            c.due("his name", x.of(i, 0), i % 2 == 0 ? i : -1);
            c.due("born", x.of(i, 5), i % 2 == 0 ? 1 : 0);
        }
        c.due("the 9th", x.person(true), -1);
        c.due("people", x.about(0), 8);
        c.due("inside", x.about(9), 4);
    }

    private void gate() {
        LastName x = new LastName();
        for (int i = 0; i < 3; i++) {
            c.due("gate " + i, x.gate(i == 1), i);
            c.due("its heap", x.heap(i, -1), 0);
        }
        c.due("the 4th gate", x.gate(false), -1);
        c.due("gates", x.about(1), 3);
    }

    private void hour() {
        LastName x = new LastName();
        for (int h = 0; h < 24; h++) {
            c.due("hour " + h, x.hour(h), true);
            c.due("hour is", x.about(2), h);
        }
        for (int h : new int[] {-1, 24, Integer.MIN_VALUE, Integer.MAX_VALUE}) {
            c.due("hour " + h, x.hour(h), false);
            c.due("hour stays", x.about(2), 23);
        }
    }

    private void feedAndEnd() {
        LastName x = new LastName();
        for (int i = 1; i <= 15; i++) {
            c.due("feed", x.feed(0x666f6f20, -1, 0, 0, 0), 20 * i);
        }
        c.due("feed beyond 300", x.feed(0, 0, 0, 0, 0), -1);
        c.due("tape", x.about(8), 300);
        c.due("end 301", x.end(301), -1);
        c.due("end 300", x.end(300), 300);
        c.due("end -1", x.end(-1), -1);
        c.due("end 281", x.end(281), 281);
        c.due("feed at 281", x.feed(0, 0, 0, 0, 0), -1);
        c.due("end 280", x.end(280), 280);
        c.due("feed at 280", x.feed(0, 0, 0, 0, 0), 300);
        c.due("end 0", x.end(0), 0);
        c.due("end 1 of none", x.end(1), -1);
        c.due("tape", x.about(8), 0);
        // "fee " | "who;" | blanks, then the highest byte first
        x.feed(0x66656520, 0x77686f3b, 0x20202020, 0x0a0a0a0a, 0x676f2030);
        x.feed(0x20627920, 0x303b2020, 0, 0, 0);
        x.end(28);
        c.due("text of words", x.text(), 0);
        x.person(true);
        x.gate(false);
        c.due("its go", x.gone(0), 1);
    }

    private void text() {
        LastName x = new LastName();
        c.due("fault ahead of any", x.fault(0), -1);
        c.due("place ahead of any", x.fault(1), -1);
        c.due("an empty text", x.text(), 0);
        c.due("its fault", x.fault(0), 0);
        c.due("its place", x.fault(1), -1);
        c.due("fault 2", x.fault(2), -1);
        c.due("fault -1", x.fault(-1), -1);
        c.due("a faulty one", Check.read(x, "fee 1"), -1);
        c.due("its tape", x.about(8), 0);
        c.due("its fault", x.fault(0), 1);
        c.due("texts", x.about(3), 1);
        Check.read(x, "go 0 by 0;take 1;fee 1;go 0 by 0;go");
        c.due("a second", Check.read(x, "fee 1;"), 1);
        c.due("its place", x.fault(1), -1);
        c.due("nothing of the faulty one is left", x.gone(1), 0);
        c.due("its tape", x.about(8), 0);
        c.due("a third", Check.read(x, "fee 2;"), 2);
        c.due("a fourth", Check.read(x, " \n"), 3);
        Check.put(x, "fee");
        c.due("a fifth", x.text(), -1);
        c.due("the tape stays", x.about(8), 3);
        c.due("the latest that was read", x.fault(0), 0);
        c.due("texts", x.about(3), 4);
    }

    private void tokens() {
        faulty("go0by1;", 0, -1);
        faulty("fee\n1 ;\nbars who<=1;bars who>=1;bars who<1;bars who>1;bars who=1;bars who#1;", 0, -1);
        faulty("fee 0009999;", 0, -1);
        faulty("fee 1 < 2;", 1, 6);
        faulty("bars who < = 1;", 1, 11);
        faulty("bars who =< 1;", 1, 10);
        faulty("bars who <> 1;", 1, 10);
        faulty("fee\t1;", 1, 3);
        faulty("fee 1\r;", 1, 5);
        faulty("fee 1" + (char) 0 + ";", 1, 5);
        faulty("fee 1" + (char) 233 + ";", 1, 5);
        faulty("Fee 1;", 1, 0);
        faulty("fee Who;", 1, 4);
        faulty("feewho;", 1, 0);
        faulty("feea 1;", 1, 0);
        faulty("feez 1;", 1, 0);
        faulty("feeA 1;", 1, 0);
        faulty("feeZ 1;", 1, 0);
        faulty("fee@1;", 1, 3);
        faulty("fee[1;", 1, 3);
        faulty("fee`1;", 1, 3);
        faulty("fee{1;", 1, 3);
        faulty("fee 1:;", 1, 5);
        faulty("fee 12who;", 1, 6);
        faulty("fee who who;", 1, 8);
        faulty("fee 1 2;", 1, 6);
        faulty("&", 1, 0);
    }

    private void faults() {
        faulty("fee 1", 1, 5);
        faulty("fee 1  ", 1, 7);
        faulty("fee", 1, 3);
        faulty("fee ;", 1, 4);
        faulty("fee (1;", 1, 6);
        faulty("fee 1);", 1, 5);
        faulty("fee 1+;", 1, 6);
        faulty("fee *1;", 1, 4);
        faulty("fee foo;", 1, 4);
        faulty("fee fee;", 1, 4);
        faulty("fee not 1;", 1, 4);
        faulty("bars 1;", 1, 6);
        faulty("bars (1=1);", 1, 7);
        faulty("bars 1=1=1;", 1, 8);
        faulty("bars 1=1 or;", 1, 11);
        faulty("bars 1=1 and or 1=1;", 1, 13);
        faulty("bars 1=1 not 1=1;", 1, 9);
        faulty(";", 1, 0);
        faulty("fee 1;;", 1, 6);
        faulty("by 1;", 1, 0);
        faulty("go who by 0;", 1, 3);
        faulty("go -1 by 0;", 1, 3);
        faulty("go 1 0;", 1, 5);
        faulty("go 1 by 0", 1, 9);
        faulty("go 7 by 2;", 0, -1);
        faulty("go 8 by 2;", 2, 3);
        faulty("go 7 by 3;", 2, 8);
        faulty("go 99999 by 2;", 2, 3);
        faulty("fee 10000;", 2, 4);
        faulty("fee 99999999999999999999;", 2, 4);
        faulty("take 1;take 2;", 4, 7);
        faulty("fee 1;take 1;go 0 by 0;fee 2;", 4, 23);
        faulty("take place+name+own+who+gate+size+hour;", 0, -1);
        faulty("fee who+gate+size+hour+in+name;", 0, -1);
        faulty("bars who+gate+size+hour+in+name=1;", 0, -1);
        faulty("take in;", 5, 5);
        faulty("fee place;", 5, 4);
        faulty("fee own;", 5, 4);
        faulty("bars place=1;", 5, 5);
        faulty("bars 1=own;", 5, 7);
        faulty("go0by0;".repeat(20), 0, -1);
        faulty("go0by0;".repeat(20) + "  go0by0;", 6, 142);
    }

    /** Of one TOKEN the least FAULT, of several TOKENS the first. */
    private void faultOrder() {
        faulty("fee 1;" + "go0by0;".repeat(19) + "fee 2;", 4, 139);
        faulty("go0by0;".repeat(20) + "goes 1;", 1, 140);
        faulty("go0by0;".repeat(20) + "fee 2;", 6, 140);
        faulty("fee 1 10000;", 1, 6);
        faulty("fee 10000 10000;", 2, 4);
        faulty("fee 1 place;", 1, 6);
        faulty("take in;take 1;!", 5, 5);
        faulty("fee 1 !", 1, 6);
        faulty("go 8 at 0;", 2, 3);
    }

    private void depth() {
        faulty("fee " + "(".repeat(8) + "1" + ")".repeat(8) + ";", 0, -1);
        faulty("fee " + "(".repeat(9) + "1" + ")".repeat(9) + ";", 3, 12);
        faulty("fee " + "-".repeat(8) + "1;", 0, -1);
        faulty("fee " + "-".repeat(9) + "1;", 3, 12);
        faulty("bars " + "not ".repeat(8) + "1=1;", 0, -1);
        faulty("bars " + "not ".repeat(9) + "1=1;", 3, 37);
        faulty("bars not not not ((-(--1)))=1;", 3, 22);
        faulty("bars not not not ((-(-1)))=1;", 0, -1);
        faulty("bars not " + "(".repeat(8) + "1", 3, 16);
        faulty("bars not 1=" + "(".repeat(8) + "1", 3, 18);
        faulty("bars not 1=1 and " + "(".repeat(8) + "1" + ")".repeat(8) + "=1;", 0, -1);
        faulty("fee -1+-1*-1-(-1)-(-1)-(1)-(1)-(1)-(1)-(1)-(1);", 0, -1);
    }

    private void by() {
        LastName x = new LastName();
        c.due("by 0 of none", x.by(0), false);
        Check.read(x, "fee 5;");
        Check.read(x, "fee 7;");
        c.due("none rules", x.about(4), -1);
        c.due("by 1", x.by(1), true);
        c.due("by 2", x.by(2), false);
        c.due("by -2", x.by(-2), false);
        c.due("rules", x.about(4), 1);
        x.person(true);
        x.gate(false);
        x.go(0, 0);
        c.due("the fee of 1", x.of(0, 1), 7);
        c.due("by none", x.by(-1), true);
        x.go(0, 0);
        c.due("the fee of none", x.of(0, 1), 8);
    }

    private void gone() {
        LastName x = town(2, 1, 1);
        Check.read(x, "go 0 by 0;fee 900;go 1 by 0;go 7 by 0;go 0 by 2;go 2 by 0;go 0 by 0;go 1 by 0;");
        // 0 and 1 out, 2 in with 1, 0 in with 0, 1 can't: nothing hangs there
        c.due("gone", x.gone(0), 4);
        c.due("2 has", x.of(2, 0), 1);
        c.due("0 has", x.of(0, 0), 0);
        c.due("1 is outside", x.of(1, 0), -1);
        c.due("it doesn't rule", x.of(0, 1), 2);
        for (int t : new int[] {-1, 1, 4, Integer.MAX_VALUE, Integer.MIN_VALUE}) {
            c.due("gone " + t, x.gone(t), -1);
        }
    }

    private void go() {
        LastName x = town(3, 1, 2);
        c.due("in without names", x.go(3, 0), -1);
        c.due("out", x.go(0, 0), 0);
        c.due("out", x.go(1, 0), 1);
        c.due("out by 1", x.go(2, 1), 2);
        c.due("in by the other", x.go(3, 1), 2);
        c.due("in: the latest", x.go(0, 0), 1);
        c.due("in", x.go(2, 0), 0);
        c.due("none left", x.go(1, 0), -1);
        c.due("paid", x.of(0, 1), 2);
        c.due("did", x.of(0, 2), 2);
        c.due("did nothing more", x.of(1, 2), 1);
        c.due("who 4", x.go(4, 0), -1);
        c.due("who -1", x.go(-1, 0), -1);
        c.due("gate 2", x.go(0, 2), -1);
        c.due("gate -1", x.go(0, -1), -1);
        for (int w : WRONG) {
            c.due("go " + w, x.go(w, 0), -1);
            c.due("go by " + w, x.go(0, w), -1);
        }
    }

    /** 0 .. 4 leave their names in this order, then 5, born OUTSIDE, comes in by that take. */
    private void takes(String take, int who, int name) {
        LastName x = town(5, 1, 2);
        x.hour(7);
        for (int one : new int[] {3, 1, 4, 0, 2}) {
            x.go(one, 1);
        }
        ruled(x, "take " + take + ";");
        c.due("take " + take, x.go(who, 1), name);
    }

    private void take() {
        takes("place", 5, 2);
        takes("-place", 5, 3);
        takes("name", 5, 4);
        takes("0", 5, 2);
        takes("name-100", 5, 4);
        takes("own-1", 4, 4);
        takes("own", 4, 4);
        takes("own", 0, 0);
        takes("own", 5, 2);
        takes("(place-2)*(place-2)", 5, 2);
        takes("-(place-2)*(place-2)", 5, 4);
        takes("name*(who-5)+place*(gate-1)+(size-5)*name-own+hour-7", 5, 2);
        takes("-(name-who)*(name-who)", 3, 3);
        takes("-(name-size+3)*(name-size+3)", 5, 2);
        takes("-(name-gate)*(name-gate)", 5, 1);
        takes("-(name-hour+3)*(name-hour+3)", 5, 4);
        takes("name/2", 5, 4);
        takes("name/3", 5, 4);
        takes("-(name/2)", 5, 0);
    }

    private void paysFor(String sum, int fee) {
        LastName x = ruled(town(3, 0, 2), "fee " + sum + ";");
        x.go(0, 1);
        x.by(-1);
        x.hour(10);
        x.by(0);
        c.due("out with fee " + sum, x.go(2, 1), 2);
        c.due("fee " + sum, x.of(2, 1), fee);
    }

    private void sums() {
        paysFor("0", 0);
        paysFor("999", 999);
        paysFor("1000", 999);
        paysFor("-1", 0);
        paysFor("who*100+gate*10+size", 211);
        paysFor("hour+name+in", 12);
        paysFor("7-2-1", 4);
        paysFor("7-(2-1)", 6);
        paysFor("2+3*4", 14);
        paysFor("(2+3)*4", 20);
        paysFor("100/7/2", 7);
        paysFor("100-7/2", 97);
        paysFor("7%4", 3);
        paysFor("10+(-7)%4", 7);
        paysFor("10+7%(-4)", 13);
        paysFor("10+(-7)/2", 7);
        paysFor("10-7/(0-2)", 13);
        paysFor("5/0+3", 3);
        paysFor("5%0+4", 4);
        paysFor("-5+8", 3);
        paysFor("--5", 5);
        paysFor("2*-3+10", 4);
        paysFor("9999*9999/1000-1", 999);
        paysFor("9999*9999-9999*100", 100);
        paysFor("0-9999*9999+9999*100+500", 400);
        paysFor("9999*-9999+9999*100+600", 500);
        paysFor("9999*100+9999-9999*100", 100);
        paysFor("8/3*3", 6);
        paysFor("8%3*3", 6);
    }

    private void barsOut(String ask, boolean barred) {
        LastName x = ruled(town(3, 0, 1), "bars " + ask + ";");
        c.due("bars " + ask, x.go(2, 0), barred ? -1 : 2);
    }

    private void asks() {
        barsOut("1<1", false);
        barsOut("0<1", true);
        barsOut("1<=1", true);
        barsOut("2<=1", false);
        barsOut("1>1", false);
        barsOut("2>1", true);
        barsOut("1>=1", true);
        barsOut("0>=1", false);
        barsOut("1=1", true);
        barsOut("1=2", false);
        barsOut("1#1", false);
        barsOut("1#2", true);
        barsOut("not 1=1", false);
        barsOut("not not 1=1", true);
        barsOut("1=1 or 1=1 and 1=2", true);
        barsOut("1=2 and 1=1 or 1=1", true);
        barsOut("1=2 or 1=1 and 1=2", false);
        barsOut("not 1=2 and 1=2", false);
        barsOut("not 1=1 or 1=1", true);
        barsOut("who=2 and in=0 and name=2 and size=0 and gate=0 and hour=0", true);
        barsOut("1=2;bars 1=3", false);
        barsOut("1=2;bars 1=1", true);
    }

    private void feesAndBars() {
        LastName x = town(2, 1, 1);
        Check.read(x, "fee name+10*in+100*size;bars in=1 and size<2 and name=0-1;");
        x.by(0);
        c.due("out", x.go(1, 0), 1);
        c.due("its fee", x.of(1, 1), 1);
        c.due("in is barred", x.go(2, 0), -1);
        c.due("nothing paid", x.of(2, 1), 0);
        c.due("nothing done", x.of(2, 2), 0);
        c.due("out", x.go(0, 0), 0);
        c.due("its fee", x.of(0, 1), 100);
        c.due("in", x.go(2, 0), 0);
        c.due("its fee", x.of(2, 1), 209);
    }

    private void of() {
        LastName x = town(2, 1, 1);
        x.deed(0, 30);
        x.go(0, 0);
        x.go(2, 0);
        x.deed(0, 12);
        int[][] due = {{-1, 1, 1, 0, 30, 1}, {1, 0, 0, 0, 0, 1}, {0, 1, 1, 42, 12, 0}};
        for (int who = 0; who < 3; who++) {
            for (int what = 0; what < 6; what++) {
                c.due("of " + who + " " + what, x.of(who, what), due[who][what]);
            }
            c.due("of 6", x.of(who, 6), -2);
            c.due("of -1", x.of(who, -1), -2);
        }
        c.due("of -1", x.of(-1, 0), -2);
        c.due("of 3", x.of(3, 0), -2);
        for (int w : WRONG) {
            c.due("of " + w, x.of(w, 0), -2);
            c.due("of what " + w, x.of(0, w), -2);
        }
    }

    private void calledAndHeap() {
        LastName x = town(3, 1, 2);
        x.go(1, 1);
        x.go(0, 1);
        c.due("called 2", x.called(2), 2);
        c.due("called 0: on a heap", x.called(0), -1);
        c.due("called 3: no name", x.called(3), -1);
        c.due("called -1", x.called(-1), -1);
        x.go(3, 1);
        c.due("called 0", x.called(0), 3);
        x.go(2, 1);
        c.due("how many", x.heap(1, -1), 2);
        c.due("the oldest", x.heap(1, 0), 1);
        c.due("the latest", x.heap(1, 1), 2);
        c.due("behind it", x.heap(1, 2), -1);
        c.due("an empty heap", x.heap(0, -1), 0);
        c.due("of it", x.heap(0, 0), -1);
        c.due("gate 2", x.heap(2, -1), -1);
        c.due("gate -1", x.heap(-1, -1), -1);
        for (int w : WRONG) {
            c.due("called " + w, x.called(w), -1);
            c.due("heap " + w, x.heap(w, -1), -1);
            c.due("heap at " + w, x.heap(1, w), -1);
        }
    }

    private void deedsAndOwes() {
        LastName x = town(2, 1, 1);
        c.due("deed", x.deed(1, 1), 1);
        c.due("deed", x.deed(1, 999), 2);
        c.due("0 coins", x.deed(1, 0), -1);
        c.due("1000 coins", x.deed(1, 1000), -1);
        c.due("-5 coins", x.deed(1, -5), -1);
        c.due("name 2", x.deed(2, 5), -1);
        c.due("name -1", x.deed(-1, 5), -1);
        x.go(1, 0);
        c.due("a name that hangs", x.deed(1, 5), -1);
        c.due("owes all the same", x.owes(1), 1000);
        c.due("nobody's name", x.owes(7), 0);
        c.due("owes -1", x.owes(-1), -1);
        for (int w : WRONG) {
            c.due("owes " + w, x.owes(w), -1);
            c.due("deed " + w, x.deed(w, 5), -1);
        }
        for (int i = 3; i <= 20; i++) {
            c.due("deed", x.deed(0, 2), i);
        }
        c.due("the 21st", x.deed(0, 2), -1);
        c.due("owes", x.owes(0), 36);
        c.due("deeds", x.about(5), 20);
    }

    private void rowJudgeThen() {
        LastName x = town(2, 1, 1);
        x.gate(true);
        c.due("judge of none", x.judge(), -1);
        c.due("then of none", x.then(1), 1);
        c.due("then outside", x.then(2), -1);
        c.due("row", x.row(0, 0), 1);
        c.due("row", x.row(2, 0), 2);
        c.due("judge", x.judge(), -1);
        c.due("then 2", x.then(2), 0);
        c.due("then 0", x.then(0), -1);
        c.due("nothing is done", x.of(2, 0), -1);
        c.due("nothing is paid", x.of(0, 1), 0);
        c.due("row", x.row(1, 1), 3);
        c.due("out by lot can be", x.judge(), -1);
        c.due("row", x.row(1, 1), 4);
        c.due("in by lot can't", x.judge(), 3);
        c.due("then", x.then(2), -2);
        c.due("who 3", x.row(3, 0), -1);
        c.due("gate 2", x.row(0, 2), -1);
        c.due("gate -1", x.row(0, -1), -1);
        for (int w : WRONG) {
            c.due("row " + w, x.row(w, 0), -1);
            c.due("row by " + w, x.row(0, w), -1);
            c.due("then " + w, x.then(w), -2);
        }
        for (int i = 5; i <= 12; i++) {
            c.due("row", x.row(0, 0), i);
        }
        c.due("the 13th", x.row(0, 0), -1);
        c.due("row has", x.about(6), 12);
        c.due("empty", x.row(-1, 77), 0);
        c.due("then -1", x.then(-1), -2);
        c.due("then 3", x.then(3), -2);
        x.row(2, 0);
        c.due("the first can't", x.judge(), 0);
        ruled(x, "bars who=0;");
        x.row(-1, 0);
        x.row(0, 0);
        c.due("barred", x.judge(), 0);
    }

    private void chance() {
        LastName x = town(3, 2, 1);
        x.gate(true);
        c.due("now", x.chance(0, 0, 0), 1);
        c.due("now", x.chance(0, 0, 1), 1);
        c.due("not now", x.chance(0, 1, 0), 0);
        c.due("not now", x.chance(0, 1, 1), 1);
        for (int who = 0; who < 5; who++) {
            x.row(who, 1);
        }
        // three names hang there; 3 and 4 draw
        c.due("3 has 1", x.chance(3, 1, 0), 1);
        c.due("of", x.chance(3, 1, 1), 3);
        c.due("4 has 1", x.chance(4, 1, 0), 1);
        c.due("of", x.chance(4, 1, 1), 3);
        x.row(3, 0);
        x.row(0, 0);
        x.row(3, 1);
        // 3 leaves his at gate 0, 0 takes it, 3 draws the last one at gate 1
        c.due("0 has 2", x.chance(0, 2, 1), 3);
        c.due("3 has 2", x.chance(3, 2, 0), 1);
        c.due("of", x.chance(3, 2, 1), 3);
        c.due("0 is inside", x.chance(0, -1, 0), 0);
        c.due("six by lot", x.about(6), 8);
        x.row(1, 0);
        c.due("left out", x.chance(1, -1, 0), 1);
        x.row(1, 1);
        c.due("seven by lot", x.chance(0, 2, 0), -1);
        for (int w : WRONG) {
            c.due("chance " + w, x.chance(w, 0, 0), -1);
            c.due("chance name " + w, x.chance(0, w, 0), -1);
            c.due("chance what " + w, x.chance(0, 0, w), -1);
        }
        x.row(-1, 0);
        c.due("who 5", x.chance(5, 0, 0), -1);
        c.due("who -1", x.chance(-1, 0, 0), -1);
        c.due("what 2", x.chance(0, 0, 2), -1);
        c.due("what -1", x.chance(0, 0, -1), -1);
        sixDraws();
        leftOutByLot();
    }

    private void leftOutByLot() {
        LastName x = town(3, 1, 1);
        x.gate(true);
        x.row(3, 1);
        c.due("nothing hangs there", x.chance(3, -1, 0), 1);
        x.row(-1, 0);
        for (int who : new int[] {0, 1, 2, 3}) {
            x.row(who, 1);
        }
        x.row(3, 0);
        ruled(x, "bars in=0 and name=2 and gate=0;");
        c.due("he goes out again but with 2", x.chance(3, -1, 0), 2);
        c.due("of", x.chance(3, -1, 1), 3);
        c.due("he has 2", x.chance(3, 2, 0), 1);
        c.due("of", x.chance(3, 2, 1), 3);
        c.due("he has 1", x.chance(3, 1, 0), 0);
        ruled(x, "bars who=3 and gate=1;");
        c.due("who is barred doesn't draw", x.chance(3, -1, 0), 1);
        c.due("of", x.chance(3, -1, 1), 1);
    }

    /** Eight names, six draws: 1 of 8, and what a draw ahead changes. */
    private void sixDraws() {
        LastName x = town(8, 0, 0);
        x.gate(true);
        for (int who = 0; who < 8; who++) {
            x.go(who, 0);
        }
        for (int who = 0; who < 6; who++) {
            x.row(who, 0);
        }
        c.due("1 of 8", x.chance(5, 7, 0), 1);
        c.due("1 of 8", x.chance(5, 7, 1), 8);
        x.row(-1, 0);
        for (int i = 0; i < 3; i++) {
            x.row(0, 0);
            x.row(1, 0);
        }
        // 0 and 1 in, out, in again
        c.due("0 has 3", x.chance(0, 3, 1), 8);
        ruled(x, "bars in=1 and size<8;");
        // 0 in, 1 can't, 0 out, 1 in, 0 can't, 1 out
        c.due("0 is outside", x.chance(0, -1, 0), 1);
        c.due("1 is outside", x.chance(1, -1, 1), 1);
        x.row(0, 0);
        c.due("seven at the gate of lot", x.chance(0, -1, 0), -1);
    }

    private void line() {
        LastName x = town(2, 1, 2);
        c.due("line", x.line(false, 0, 0), 1);
        c.due("a name that nobody has", x.line(true, 7, 1), 2);
        c.due("name 8", x.line(true, 8, 1), -1);
        c.due("name -2", x.line(true, -2, 1), -1);
        c.due("gate 2", x.line(true, 1, 2), -1);
        c.due("gate -2", x.line(true, 1, -2), -1);
        c.due("lost", x.line(true, -1, 99), 3);
        c.due("a second lost one", x.line(false, -1, 0), -1);
        c.due("line", x.line(false, 0, 0), 4);
        c.due("line", x.line(false, 0, 0), 5);
        c.due("line", x.line(false, 0, 0), 6);
        c.due("the 7th", x.line(false, 0, 0), -1);
        c.due("lines", x.about(7), 6);
        c.due("empty", x.line(true, -1, -1), 0);
        c.due("lines", x.about(7), 0);
        c.due("lost at once", x.line(true, -1, -5), 1);
        for (int i = 2; i <= 6; i++) {
            x.line(false, 0, 0);
        }
        x.line(false, 0, -1);
        for (int i = 1; i <= 6; i++) {
            x.line(false, 0, 0);
        }
        c.due("lost as the 7th", x.line(false, -1, 0), -1);
    }

    private void ways() {
        LastName x = town(3, 1, 2);
        c.due("of no book", x.ways(), 1);
        x.line(false, 1, 0);
        c.due("1 alone can", x.ways(), 1);
        x.line(true, 1, 0);
        c.due("1 or 3", x.ways(), 2);
        x.line(true, 1, 1);
        c.due("nothing hangs there", x.ways(), 0);
        x.line(true, 0, -1);
        x.line(false, 0, 0);
        x.line(false, 1, 0);
        x.line(true, 0, 0);
        c.due("the latest comes first", x.ways(), 0);
        ruled(x, "take 0-place;");
        c.due("the oldest by law: 0, 1, 3", x.ways(), 3);
        ruled(x, "take 0-place;bars who=1 and in=1;");
        c.due("1 is barred", x.ways(), 2);
        c.due("nothing is done", x.of(0, 0), 0);
        lostWays();
        lotWays();
    }

    private void lostWays() {
        LastName x = town(2, 1, 2);
        x.line(false, -1, 0);
        c.due("two by two gates", x.ways(), 4);
        x.line(true, 1, 1);
        // 1 out by 1, then 1 or 2
        c.due("the lost one was 1 by 1", x.ways(), 2);
        LastName y = town(1, 2, 1);
        y.go(0, 0);
        y.line(false, -1, 0);
        c.due("in by any of three", y.ways(), 3);
    }

    private void lotWays() {
        LastName x = town(3, 0, 0);
        x.gate(true);
        x.go(0, 0);
        x.go(1, 0);
        x.line(true, 0, 0);
        c.due("0 or 1", x.ways(), 2);
        x.line(true, 1, 0);
        c.due("0 and 1, or 1 and 0", x.ways(), 2);
        x.line(true, 0, -1);
        x.line(true, -1, 0);
        c.due("each name of the heap, or 2 out", x.ways(), 5);
    }

    private void mayAndAsk() {
        LastName x = town(3, 1, 2);
        c.due("ask of no book", x.ask(0), 0);
        c.due("the greatest part", x.ask(1), 1);
        c.due("ask 2 with ways", x.ask(2), -1);
        c.due("ask -1 with ways", x.ask(-1), -1);
        c.due("may 0 now", x.may(0), 1);
        c.due("may 3: no name", x.may(3), 0);
        x.line(false, 1, 0);
        c.due("may 1", x.may(1), 256);
        x.line(true, 1, 0);
        c.due("may 1", x.may(1), 2 + 8);
        c.due("whom", x.ask(0), 1);
        c.due("parts of one", x.ask(1), 1);
        x.line(false, -1, 0);
        // behind each of the two ways three inside by two gates
        c.due("ways", x.ways(), 12);
        c.due("may 1", x.may(1), 2 + 8 + 256);
        c.due("may 0", x.may(0), 1 + 256);
        c.due("of like ones the lowest", x.ask(0), 0);
        c.due("the greatest part", x.ask(1), 8);
        x.line(true, 7, 0);
        c.due("no ways", x.ways(), 0);
        c.due("whom of none", x.ask(0), -1);
        c.due("part of none", x.ask(1), -1);
        c.due("may of none", x.may(1), 0);
        c.due("may -1", x.may(-1), -1);
        c.due("ask -1", x.ask(-1), -1);
        c.due("ask 2", x.ask(2), -1);
        for (int w : WRONG) {
            c.due("may " + w, x.may(w), -1);
            c.due("ask " + w, x.ask(w), -1);
        }
        LastName nobody = new LastName();
        c.due("without people", nobody.ask(0), -1);
        c.due("without people", nobody.ask(1), -1);
        c.due("without people", nobody.may(0), 0);
    }

    private void row(LastName x, int goal, int a, int b, int set, int... goings) {
        String call = "fewest " + goal + " " + a + " " + b + " " + set;
        c.due(call, x.fewest(goal, a, b, set, -1), goings.length);
        for (int k = 0; k < goings.length; k++) {
            c.due(call + " at " + k, x.fewest(goal, a, b, set, k), goings[k]);
        }
        c.due(call + " behind it", x.fewest(goal, a, b, set, goings.length), -1);
        c.due(call + " ahead of it", x.fewest(goal, a, b, set, -2), -1);
    }

    private void fewest() {
        LastName x = town(3, 1, 2);
        row(x, 0, 0, 0, 15);
        row(x, 2, 9, -9, 15);
        row(x, 2, 0, 0, 0);
        c.due("set 16, where it is so at once", x.fewest(2, 0, 0, 16, -1), -1);
        c.due("set -1, where it is so at once", x.fewest(2, 0, 0, -1, -1), -1);
        row(x, 0, 0, 1, 15, 0, 10, 0);
        row(x, 0, 3, 2, 15, 20, 30);
        row(x, 0, 3, 2, 8 + 4, 20, 30);
        c.due("who isn't of the set", x.fewest(0, 3, 2, 8, -1), -1);
        c.due("no such name", x.fewest(0, 0, 3, 1, -1), -1);
        row(x, 1, 0, 1, 15, 0, 10, 0, 10);
        row(x, 1, 1, 0, 3, 0, 10, 0, 10);
        x.go(0, 0);
        x.go(1, 0);
        x.go(0, 0);
        x.go(1, 0);
        // 0 has 1, 1 has 0
        row(x, 2, 0, 0, 15, 0, 10, 0, 10);
        row(x, 0, 0, 0, 15, 0, 10, 0);
        c.due("goal 3", x.fewest(3, 0, 1, 15, -1), -1);
        c.due("goal -1", x.fewest(-1, 0, 1, 15, -1), -1);
        c.due("a like b", x.fewest(1, 1, 1, 15, -1), -1);
        c.due("b outside", x.fewest(1, 0, 3, 15, -1), -1);
        c.due("a outside", x.fewest(1, 3, 0, 15, -1), -1);
        c.due("set 16", x.fewest(2, 0, 0, 16, -1), -1);
        c.due("set -1", x.fewest(2, 0, 0, -1, -1), -1);
        for (int w : WRONG) {
            c.due("a " + w, x.fewest(0, w, 0, 15, -1), -1);
            c.due("b " + w, x.fewest(0, 0, w, 15, -1), -1);
            c.due("a " + w, x.fewest(1, w, 0, 15, -1), -1);
            c.due("b " + w, x.fewest(1, 0, w, 15, -1), -1);
            c.due("goal " + w, x.fewest(w, 0, 1, 15, -1), -1);
            c.due("k " + w, x.fewest(2, 0, 0, 15, w), -1);
        }
        c.due("b -1", x.fewest(0, 0, -1, 15, -1), -1);
        lawsAndLots();
    }

    private void lawsAndLots() {
        LastName x = town(2, 1, 0);
        x.gate(true);
        c.due("by lot alone", x.fewest(0, 0, 1, 7, -1), -1);
        x.gate(false);
        row(x, 0, 2, 0, 7, 1, 21);
        ruled(x, "take own;");
        // 2 takes away what is 0's own
        row(x, 0, 0, 1, 7, 1, 21, 11, 1);
        c.due("the two alone never", x.fewest(0, 0, 1, 3, -1), -1);
        ruled(x, "bars who=2;");
        row(x, 0, 0, 1, 7, 1, 11, 1);
    }

    private void spent() {
        LastName x = town(8, 0, 3);
        c.due("a name that nobody has is not found", town(8, 0, 3).fewest(0, 0, 7, 1, -1), -1);
        x.go(7, 0);
        c.due("too many states", x.fewest(2, 0, 0, 127, -1), -2);
        c.due("for each k", x.fewest(2, 0, 0, 127, 0), -2);
        c.due("with him at once", x.fewest(2, 0, 0, 255, -1), 1);
        LastName last = town(6, 2, 2);
        last.go(5, 1);
        c.due("the 3000th state is it", last.fewest(1, 2, 4, 255, -1), 4);
        LastName behind = town(7, 0, 1);
        for (int who : new int[] {2, 0, 6, 5, 1}) {
            behind.go(who, 0);
        }
        c.due("the 3001st state would be it", behind.fewest(0, 4, 0, 127, -1), -2);
        c.due("384 states", town(4, 0, 1).fewest(0, 0, 7, 15, -1), -1);
        c.due("3840 states", town(5, 0, 1).fewest(0, 0, 7, 31, -1), -2);
    }

    private void third() {
        LastName x = town(3, 1, 1);
        c.due("third", x.third(0, 1), 2);
        c.due("third", x.third(0, 2), 1);
        c.due("third", x.third(2, 1), 0);
        c.due("a like b", x.third(1, 1), -1);
        c.due("b outside", x.third(0, 3), -1);
        for (int w : WRONG) {
            c.due("third " + w, x.third(w, 0), -1);
            c.due("third " + w, x.third(0, w), -1);
        }
        c.due("third -1", x.third(-1, 0), -1);
        ruled(x, "take own;");
        // who takes his own can't change but by one who has none
        c.due("by 3 alone", x.third(0, 1), 3);
        ruled(x, "take own;bars who=3;");
        c.due("none", x.third(0, 1), -1);
        c.due("of two", town(2, 0, 1).third(0, 1), -1);
    }

    private void left() {
        LastName x = town(3, 1, 2);
        c.due("nobody's order", x.left(0, 0, 0), 1);
        x.go(0, 0);
        x.go(1, 0);
        // 0, 1 and 3 are OUTSIDE, the heap is 0 1
        c.due("first of three: 1", x.left(0, 3, 1), 2);
        c.due("second: 0", x.left(0, 3, 0), 2);
        c.due("third: none", x.left(0, 3, -1), 2);
        c.due("who is inside", x.left(0, 2, 2), 6);
        c.due("with another name", x.left(0, 2, 1), 0);
        c.due("by the empty gate", x.left(1, 0, -1), 6);
        ruled(x, "bars who=0 and size>1;");
        // 0 first is left out: then 1 has 1 and 3 has 0, or the other way
        c.due("0 has 0", x.left(0, 0, 0), 2);
        c.due("0 is outside", x.left(0, 0, -1), 4);
        c.due("nothing is done", x.heap(0, -1), 2);
        for (int w : WRONG) {
            c.due("gate " + w, x.left(w, 0, 0), -1);
            c.due("who " + w, x.left(0, w, 0), -1);
            c.due("name " + w, x.left(0, 0, w), -1);
        }
        c.due("who 4", x.left(0, 4, 0), -1);
        c.due("who -1", x.left(0, -1, 0), -1);
        c.due("gate 2", x.left(2, 0, 0), -1);
        c.due("gate -1", x.left(-1, 0, 0), -1);
        x.gate(true);
        c.due("by lot", x.left(2, 0, 0), -1);
        LastName many = town(8, 0, 1);
        for (int i = 0; i < 6; i++) {
            many.go(i, 0);
        }
        c.due("six of them", many.left(0, 3, 5), 120);
        many.go(6, 0);
        c.due("seven of them", many.left(0, 3, 5), -1);
    }

    private void thief() {
        LastName x = town(3, 1, 2);
        x.deed(0, 50);
        x.deed(1, 20);
        x.deed(2, 30);
        x.go(1, 1);
        c.due("as he is", x.thief(0, 0), 50);
        c.due("one going leaves him outside", x.thief(0, 1), 50);
        c.due("out and in by 1", x.thief(0, 2), 20);
        c.due("who is outside", x.thief(3, 0), -1);
        c.due("in by 1", x.thief(3, 1), 20);
        c.due("2 too", x.thief(2, 4), 20);
        ruled(x, "bars gate=1 and size=1;");
        c.due("he can't", x.thief(0, 4), 50);
        c.due("nor 3", x.thief(3, 4), -1);
        x.by(-1);
        for (int w : WRONG) {
            c.due("who " + w, x.thief(w, 0), -1);
            c.due("n " + w, x.thief(0, w), -1);
        }
        c.due("who 4", x.thief(4, 0), -1);
        c.due("n -1", x.thief(0, -1), -1);
        c.due("n 5", x.thief(0, 5), -1);
        LastName y = town(2, 0, 0);
        y.gate(true);
        y.deed(0, 5);
        y.go(1, 0);
        c.due("by lot he can't", y.thief(0, 4), 5);
        fourGoings();
    }

    /** The name that he wants lies under another one, which he must carry to the other gate first. */
    private void fourGoings() {
        LastName x = town(3, 0, 2);
        x.deed(0, 50);
        x.deed(2, 40);
        x.go(1, 0);
        x.go(2, 0);
        c.due("the upper one", x.thief(0, 2), 40);
        c.due("the upper one still", x.thief(0, 3), 40);
        c.due("the lower one", x.thief(0, 4), 0);
    }

    private void seedAndDays() {
        LastName x = new LastName();
        c.due("seed", x.seed(0), true);
        c.due("x", x.about(10), 5);
        c.due("seed", x.seed(9999), true);
        c.due("x", x.about(10), 109994);
        c.due("seed -1", x.seed(-1), false);
        c.due("seed 10000", x.seed(10000), false);
        c.due("x", x.about(10), 109994);
        c.due("without people", x.days(1), -1);
        x.person(true);
        c.due("without gates", x.days(1), -1);
        c.due("x", x.about(10), 109994);
        x.gate(true);
        for (int n : new int[] {0, -1, 101, Integer.MAX_VALUE, Integer.MIN_VALUE}) {
            c.due("days " + n, x.days(n), -1);
        }
        c.due("one", x.days(1), 1);
        c.due("and 99", x.days(99), 99);
        x.seed(9999);
        c.due("a hundred", x.days(100), 100);
        c.due("they count", x.of(0, 2), 200);
        // each day two draws, each second day the draw of the one name besides
        int due = 109994;
        for (int i = 0; i < 250; i++) {
            due = (due * 191 + 43) % 30109;
        }
        c.due("250 draws", x.about(10), due);
        lots();
    }

    private void lots() {
        LastName x = town(3, 0, 0);
        x.gate(true);
        for (int i = 0; i < 3; i++) {
            x.go(i, 0);
        }
        c.due("no draw as they go out", x.about(10), 5);
        c.due("5 mod 3: the latest", x.go(0, 0), 2);
        c.due("x", x.about(10), 998);
        c.due("998 mod 2: the oldest", x.go(1, 0), 0);
        c.due("x", x.about(10), (998 * 191 + 43) % 30109);
        ruled(x, "bars who=2;");
        c.due("who is barred doesn't draw", x.go(2, 0), -1);
        c.due("x", x.about(10), (998 * 191 + 43) % 30109);
        x.by(-1);
        c.due("the last one", x.go(2, 0), 1);
    }

    private void imageAndBack() {
        LastName x = town(2, 1, 1);
        x.gate(true);
        x.hour(5);
        x.seed(77);
        ruled(x, "fee 3;go 0 by 0;");
        x.deed(1, 10);
        x.row(0, 0);
        x.line(false, 1, 0);
        x.go(0, 0);
        c.due("image", x.image(), 3);
        x.person(true);
        x.gate(false);
        x.hour(6);
        x.seed(1);
        Check.read(x, "fee 4;");
        x.by(1);
        x.row(-1, 0);
        x.row(1, 1);
        x.line(false, 0, -1);
        x.line(true, 1, 1);
        x.go(2, 0);
        x.deed(0, 500);
        x.go(1, 1);
        Check.read(x, "fee");
        x.feed(1, 2, 3, 4, 5);
        for (int times = 0; times < 2; times++) {
            c.due("back", x.back(), 3);
            int[] about = {3, 2, 5, 1, 0, 1, 1, 1, 20, 1, 852};
            for (int i = 0; i < about.length; i++) {
                c.due("about " + i + " again", x.about(i), about[i]);
            }
            c.due("the latest fault stays", x.fault(0), 1);
            c.due("heap", x.heap(0, 0), 0);
            c.due("heap", x.heap(1, -1), 0);
            c.due("paid", x.of(0, 1), 3);
            c.due("done", x.of(2, 2), 0);
            c.due("owes", x.owes(0), 0);
            c.due("owes", x.owes(1), 10);
            c.due("0 is out", x.of(0, 0), -1);
            c.due("2 is out", x.of(2, 0), -1);
            c.due("row", x.judge(), -1);
            c.due("row", x.then(0), 0);
            c.due("book", x.ways(), 1);
            c.due("who was told behind it", x.of(3, 0), -2);
            x.end(20);
            c.due("the text", x.go(1, 0), 1);
            c.due("its fee", x.of(1, 1), 3);
        }
        x.back();
        c.due("a text in the place of the one that went", Check.read(x, "fee 9;"), 1);
        x.by(1);
        x.go(1, 0);
        c.due("its fee", x.of(1, 1), 9);
    }

    private void about() {
        LastName x = town(2, 1, 2);
        x.hour(9);
        Check.read(x, "");
        x.by(0);
        x.deed(0, 1);
        x.row(0, 0);
        x.row(0, 0);
        x.line(false, 0, 0);
        x.feed(0, 0, 0, 0, 0);
        x.end(17);
        int[] about = {3, 2, 9, 1, 0, 1, 2, 1, 17, 2, 5};
        for (int i = 0; i < about.length; i++) {
            c.due("about " + i, x.about(i), about[i]);
        }
        for (int w : new int[] {-2, -1, 11, 12, Integer.MAX_VALUE, Integer.MIN_VALUE}) {
            c.due("about " + w, x.about(w), -2);
        }
    }
}
