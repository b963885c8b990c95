import java.lang.reflect.InvocationTargetException;
import java.lang.reflect.Method;
import java.util.ArrayList;
import java.util.Comparator;
import java.util.List;
import java.util.function.Supplier;
import java.util.function.ToLongBiFunction;
import java.util.function.ToLongFunction;

/**
 * What the tests of boundaries share. A test is a method whose name begins with its promise, as in
 * promise2_theNinthIsNone, and stands for one sentence of the document.
 */
abstract class Edges {
    static final int[] FAR = {Integer.MIN_VALUE, -1000, 1000, Integer.MAX_VALUE};
    final Check c = new Check();

    static List<Method> testsOf(Class<?> k) {
        List<Method> all = new ArrayList<>();
        for (Method m : k.getDeclaredMethods()) {
            if (m.getName().startsWith("promise")) {
                all.add(m);
            }
        }
        all.sort(Comparator.comparingInt(Edges::promiseOf).thenComparing(Method::getName));
        return all;
    }

    static int promiseOf(Method m) {
        return Integer.parseInt(m.getName().replaceAll("promise(\\d+)_.*", "$1"));
    }

    void runAll() throws IllegalAccessException, InvocationTargetException {
        int failed = 0;
        List<Method> tests = testsOf(getClass());
        for (Method m : tests) {
            int before = c.wrong();
            c.begin(m.getName());
            m.invoke(this);
            failed += c.wrong() > before ? 1 : 0;
        }
        System.out.println(getClass().getName() + ": " + tests.size() + " tests, " + failed + " failed");
        c.close(getClass().getName());
    }

    /** So many born INSIDE, then so many born OUTSIDE; GATES without LOT, then such of LOT. */
    static LastName town(int inside, int outside, int gates, int lots) {
        LastName x = new LastName();
        for (int i = 0; i < inside + outside; i++) {
            x.person(i < inside);
        }
        for (int i = 0; i < gates + lots; i++) {
            x.gate(i >= gates);
        }
        return x;
    }

    static LastName ruled(LastName x, String text) {
        x.by(Check.read(x, text));
        return x;
    }

    /** Something of all: people in and out, laws, deeds, a row, a book, a tape, a fault, an image that differs. */
    static LastName busy() {
        LastName x = town(4, 1, 1, 1);
        ruled(x, "fee 3+size;take name;bars who=9;go 1 by 1;");
        x.seed(77);
        x.deed(2, 40);
        x.go(0, 0);
        x.image();
        Check.read(x, "go 2 by 0;bars hour=8;");
        x.hour(7);
        x.go(1, 1);
        x.go(4, 0);
        x.deed(0, 7);
        x.row(2, 0);
        x.row(3, 1);
        x.line(false, 2, 0);
        x.line(true, -1, 0);
        Check.read(x, "fee");
        Check.put(x, "go 3 by 0;");
        return x;
    }

    /** As much of all as there can be, but the TEXTS are three. */
    static LastName full() {
        LastName x = town(7, 1, 2, 1);
        for (int i = 0; i < 3; i++) {
            Check.read(x, "fee " + i + ";");
        }
        x.by(2);
        x.image();
        for (int i = 0; i < 20; i++) {
            x.deed(i % 7, 999);
        }
        for (int i = 0; i < 12; i++) {
            x.row(0, 0);
        }
        for (int i = 0; i < 3; i++) {
            x.line(false, 1, 1);
            x.line(true, 1, 1);
        }
        Check.put(x, "fee 1;" + " ".repeat(294));
        return x;
    }

    /** The call answers that, and leaves all as it was. */
    void kept(String call, Supplier<LastName> make, ToLongFunction<LastName> made, long answer) {
        LastName x = make.get();
        c.due(call, made.applyAsLong(x), answer);
        c.same(call + " leaves all as it was", View.of(x), View.of(make.get()));
    }

    /** As kept, of each of these. */
    void keptOfEach(String call, Supplier<LastName> make, int[] each, ToLongBiFunction<LastName, Integer> made, long answer) {
        for (int one : each) {
            kept(call + " " + one, make, x -> made.applyAsLong(x, one), answer);
        }
    }

    /** What stands just beside from .. to, and what is far from it. */
    static int[] beside(int from, int to) {
        return new int[] {from - 1, to + 1, from - 2, to + 2, Integer.MIN_VALUE, -1000000, 1000000, Integer.MAX_VALUE};
    }

    static long bit(boolean b) {
        return b ? 1 : 0;
    }

    void faulty(String text, int fault, int place) {
        LastName x = new LastName();
        c.due("text of " + text, Check.read(x, text), fault == 0 ? 0 : -1);
        c.due("fault of " + text, x.fault(0), fault);
        c.due("place in " + text, x.fault(1), place);
    }

    void reads(String text) {
        faulty(text, 0, -1);
    }

    /** Whether 2 of 3, born INSIDE, going out by the empty GATE 0 at HOUR 5, finds that so. */
    void so(String ask, boolean due) {
        LastName x = ruled(town(3, 0, 1, 0), "bars " + ask + ";");
        c.due("it can be read: " + ask, x.about(4), 0);
        x.hour(5);
        c.due(ask, x.go(2, 0) == -1, due);
    }
}
