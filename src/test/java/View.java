import java.util.ArrayList;
import java.util.List;

/** All that can be seen of an object, call by call. Looking uses the object up: some of the calls change it. */
final class View {
    private final LastName x;
    private final List<String> seen = new ArrayList<>();

    private View(LastName x) {
        this.x = x;
    }

    static List<String> of(LastName x) {
        View v = new View(x);
        v.lookAtState();
        v.lookAtTrials();
        v.lookAtLaws();
        v.lookAtTape();
        v.see("back", x.back());
        v.lookAtState();
        v.lookAtTape();
        return v.seen;
    }

    private void see(String call, long answer) {
        seen.add(call + " " + answer);
    }

    private void lookAtState() {
        for (int what = 0; what <= 10; what++) {
            see("about " + what, x.about(what));
        }
        int people = x.about(0);
        for (int who = 0; who < people; who++) {
            for (int what = 0; what <= 5; what++) {
                see("of " + who + " " + what, x.of(who, what));
            }
        }
        for (int gate = 0; gate < x.about(1); gate++) {
            int size = x.heap(gate, -1);
            for (int i = -1; i < size; i++) {
                see("heap " + gate + " " + i, x.heap(gate, i));
            }
        }
        for (int name = 0; name < 8; name++) {
            see("called " + name, x.called(name));
            see("owes " + name, x.owes(name));
        }
        see("fault", x.fault(0));
        see("place", x.fault(1));
    }

    private void lookAtTrials() {
        see("judge", x.judge());
        see("ways", x.ways());
        see("whom", x.ask(0));
        see("part", x.ask(1));
        for (int i = 0; i < 8; i++) {
            see("may " + i, x.may(i));
        }
        for (int who = 0; who < x.about(0); who++) {
            see("then " + who, x.then(who));
            see("upper " + who, x.chance(who, -1, 0));
            see("thief " + who, x.thief(who, 2));
        }
        for (int gate = 0; gate < x.about(1); gate++) {
            see("left " + gate, x.left(gate, 0, -1));
        }
    }

    /** What each TEXT makes of the ROW, and where its own GOINGS lead. */
    private void lookAtLaws() {
        for (int text = 0; text < x.about(3); text++) {
            see("by " + text, x.by(text) ? 1 : 0);
            see("judge by " + text, x.judge());
            see("ways by " + text, x.ways());
            see("gone " + text, x.gone(text));
            for (int who = 0; who < x.about(0); who++) {
                see("paid " + who, x.of(who, 1));
            }
        }
        for (int who = 0; who < x.about(0); who++) {
            see("name " + who, x.of(who, 0));
        }
    }

    private void lookAtTape() {
        see("tape", x.about(8));
        see("text", x.text());
        see("its fault", x.fault(0));
        see("its place", x.fault(1));
    }
}
