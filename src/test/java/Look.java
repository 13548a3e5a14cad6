import java.util.ArrayList;
import java.util.List;

/** All that can be asked of an object, to see whether two of them are alike; some 180 calls of its 512. */
final class Look {
    private final DeepHole x;
    private final List<String> names = new ArrayList<>();
    private final List<Integer> answers = new ArrayList<>();

    private Look(DeepHole x) {
        this.x = x;
    }

    /** Asks what changes nothing first; what forgets or moves something comes last, the tape at the very end. */
    static Look at(DeepHole x, int bytes) {
        Look look = new Look(x);
        look.add("fault()", x.fault());
        look.atStates();
        look.atInches();
        look.atStraight();
        look.atNeedle();
        look.atWalls();
        look.atTapeLast(bytes);
        return look;
    }

    /** Tells what differs. */
    void dueLike(String what, Look due) {
        Check.due(what + ": how many answers", answers.size(), due.answers.size());
        for (int i = 0; i < Math.min(answers.size(), due.answers.size()); i++) {
            Check.due(what + ": " + names.get(i), answers.get(i), due.answers.get(i));
        }
    }

    private void add(String name, int answer) {
        names.add(name);
        answers.add(answer);
    }

    private void atStates() {
        for (int what = 0; what <= 10; what++) {
            add("state(" + what + ")", x.state(what));
        }
        for (int i = 0; i < 4; i++) {
            add("feedAt(" + i + ")", x.feedAt(i));
        }
        for (int i = 0; i < 3; i++) {
            add("stroke(" + i + ")", x.stroke(i));
            add("led(" + i + ")", Check.ledOf(x, i));
        }
    }

    private void atInches() {
        for (int i = 0; i < x.state(0); i++) {
            for (int what = 0; what <= 6; what++) {
                add("inch(" + i + ", " + what + ")", x.inch(i, what));
            }
        }
    }

    private void atStraight() {
        for (int what = 0; what < 3; what++) {
            add("ring(" + what + ")", x.ring(what));
        }
        for (int i = 0; i < x.state(9); i++) {
            add("sees(" + i + ")", x.sees(i));
        }
        add("about()", x.about());
    }

    private void atNeedle() {
        add("causes()", x.causes());
        for (int what = 0; what < 3; what++) {
            add("cause(0, " + what + ")", x.cause(0, what));
            add("sure(" + what + ")", x.sure(what));
        }
        add("forget()", x.forget());
    }

    private void atWalls() {
        for (int i = 0; i < x.state(6); i++) {
            add("lies(" + i + ", 30, false)", x.lies(i, 30, false));
            add("lies(" + i + ", 30, true)", x.lies(i, 30, true));
        }
        add("next(30)", x.next(30));
        add("clear()", x.clear());
    }

    /** Only HEAT and drilling on show all of the BLOWS and of the drill, and only a SHOP the bytes of the tape. */
    private void atTapeLast(int bytes) {
        add("heat()", x.heat());
        add("drill(30)", x.drill(30));
        for (int i = 0; i < x.state(0); i++) {
            add("x of " + i + " at the end", x.inch(i, 0));
            add("y of " + i + " at the end", x.inch(i, 1));
        }
        add("COST at the end", x.state(1));
        add("what it is at the end", x.state(2));
        add("shop(" + bytes + ")", x.shop(bytes));
        add("fault() of the tape", x.fault());
        add("where() of the tape", x.where());
    }
}
