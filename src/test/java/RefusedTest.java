import java.util.ArrayList;
import java.util.List;
import java.util.function.Consumer;
import java.util.function.ToIntFunction;

/**
 * Every call in states of many kinds: one that returns an error or NONE, and one that only tells,
 * changes nothing but what ERRORS says, and an act records the state that was before it.
 */
public final class RefusedTest {
    private static final int GREATEST_ERROR = -10001;
    private static final int NOT_POSSIBLE = -10004;
    private static final int NONE = -10005;
    private static final int MIN = Integer.MIN_VALUE;
    private static final int MAX = Integer.MAX_VALUE;

    private static final Check CHECK = new Check();

    /** What a call does when it is not refused. */
    private enum Kind { ACT, TELLS, OTHER }

    private record Call(String name, Kind kind, boolean performs, ToIntFunction<Face> made) {
    }

    private record Start(String name, Consumer<Face> made) {
    }

    private static final List<Call> CALLS = new ArrayList<>();
    private static final List<Start> STARTS = new ArrayList<>();

    public static void main(String[] args) {
        moves();
        settings();
        texts();
        tellings();
        starts();
        for (Start start : STARTS) {
            callAll(start);
        }
        CHECK.end("RefusedTest");
    }

    private static void callAll(Start start) {
        LastingBeam first = new LastingBeam();
        start.made.accept(first);
        String all = everything(first);
        String state = state(first);
        int states = first.count(15);
        for (Call call : CALLS) {
            Model model = new Model();
            start.made.accept(model);
            int want = call.made.applyAsInt(model);
            String name = start.name + ": " + call.name;
            LastingBeam x = first.copy();
            x.keepAll(true);
            int answer = call.made.applyAsInt(x);
            x.keepAll(false);
            CHECK.due(name, answer, want);
            boolean refused = answer <= GREATEST_ERROR;
            if (call.performs && answer == NOT_POSSIBLE) {
                same(name + " changes the latest stop alone", withoutStop(everything(x)), withoutStop(all));
            } else if (refused || call.kind == Kind.TELLS) {
                same(name + " changes nothing", everything(x), all);
            } else if (call.kind == Kind.ACT) {
                CHECK.due(name + " is recorded", x.count(15), Math.min(states + 1, 4));
                x.undo();
                same(name + " is undone", state(x), state);
            }
        }
    }

    private static void same(String what, String got, String want) {
        CHECK.due(what, got.equals(want) ? 1 : 0, 1);
    }

    // -- What there is to be seen of an object

    /** The state, the text, the latest stop, each state of the history and the snapshot. */
    private static String everything(LastingBeam x) {
        StringBuilder all = new StringBuilder(state(x));
        all.append("length ").append(x.count(16)).append(" states ").append(x.count(15));
        all.append('|').append(x.stopped(0)).append(' ').append(x.stopped(1)).append('|');
        LastingBeam undone = x.copy();
        while (undone.undo() != NONE) {
            all.append("undone ").append(state(undone));
        }
        LastingBeam restored = x.copy();
        all.append("restored ").append(restored.restore()).append(' ').append(state(restored));
        LastingBeam performed = x.copy();
        // With room for any move, so that as much as can be is seen of the text.
        performed.begin();
        performed.set(0, 4);
        performed.set(1, 40);
        performed.set(2, 1);
        all.append("performed ").append(performed.perform()).append(' ').append(state(performed));
        return all.toString();
    }

    private static String withoutStop(String all) {
        return all.replaceFirst("\\|[^|]*\\|", "");
    }

    private static String state(LastingBeam x) {
        StringBuilder all = new StringBuilder();
        for (int what = 0; what <= 14; what++) {
            all.append(x.count(what)).append(' ');
        }
        for (int place = -6; place <= 6; place++) {
            for (int what = 0; what <= 3; what++) {
                all.append(x.at(place, what)).append(' ');
            }
            for (int number = 1; number <= 7; number++) {
                all.append(x.reason(number, place)).append(' ');
            }
        }
        for (int weight = 1; weight <= 5; weight++) {
            all.append(x.bag(0, weight)).append(' ').append(x.bag(1, weight)).append(' ');
            all.append(x.levels(weight)).append(' ');
        }
        for (int back = 0; back < 40 && x.made(back, 0) != NONE; back++) {
            for (int what = 0; what <= 3; what++) {
                all.append(x.made(back, what)).append(' ');
            }
        }
        return all.append(x.look(1)).append(' ').append(x.best(1)).append('\n').toString();
    }

    // -- The calls

    private static void add(String name, Kind kind, ToIntFunction<Face> made) {
        CALLS.add(new Call(name, kind, false, made));
    }

    private static void moves() {
        for (int weight : new int[] {MIN, -1, 0, 1, 2, 5, 6, MAX}) {
            for (int place : new int[] {MIN, -7, -6, -1, 0, 1, 6, 7, MAX}) {
                add("lay(" + weight + ", " + place + ")", Kind.ACT, f -> f.lay(weight, place));
                add("setUp(" + weight + ", " + place + ")", Kind.ACT, f -> f.setUp(weight, place));
            }
        }
        for (int place = -8; place <= 8; place++) {
            int at = place == -8 ? MIN : place == 8 ? MAX : place;
            add("push(" + at + ", true)", Kind.ACT, f -> f.push(at, true));
            add("push(" + at + ", false)", Kind.ACT, f -> f.push(at, false));
        }
        for (int depth : new int[] {MIN, -1, 0, 1, 2, 4, MAX}) {
            add("play(" + depth + ")", Kind.ACT, f -> f.play(depth));
        }
    }

    private static void settings() {
        for (int side : new int[] {MIN, -1, 0, 1, 2, MAX}) {
            for (int weight : new int[] {MIN, -1, 0, 1, 5, 6, MAX}) {
                for (int many : new int[] {MIN, -1, 0, 1, 2, 6, 7, MAX}) {
                    add("setBag(" + side + ", " + weight + ", " + many + ")", Kind.ACT,
                            f -> f.setBag(side, weight, many));
                }
            }
        }
        for (int which : new int[] {MIN, -1, 0, 1, 2, 3, 4, MAX}) {
            for (int value : new int[] {MIN, -1, 0, 1, 2, 4, 5, 8, 40, 41, MAX}) {
                add("set(" + which + ", " + value + ")", Kind.ACT, f -> f.set(which, value));
            }
        }
        add("begin()", Kind.ACT, Face::begin);
        add("restore()", Kind.ACT, Face::restore);
        add("undo()", Kind.OTHER, Face::undo);
        add("keep()", Kind.OTHER, Face::keep);
    }

    private static void texts() {
        for (char c : new char[] {'1', ';', 0, 255, 65535}) {
            add("type of " + (int) c, Kind.OTHER, f -> f.type(c));
        }
        add("clearText()", Kind.OTHER, Face::clearText);
        CALLS.add(new Call("perform()", Kind.ACT, true, Face::perform));
    }

    private static void tellings() {
        int[] some = {MIN, -7, -6, -1, 0, 1, 2, 3, 4, 5, 6, 7, 16, 17, 39, 40, 60, MAX};
        for (int a : some) {
            add("stopped(" + a + ")", Kind.TELLS, f -> f.stopped(a));
            add("possible(" + a + ")", Kind.TELLS, f -> f.possible(a));
            add("levels(" + a + ")", Kind.TELLS, f -> f.levels(a));
            add("count(" + a + ")", Kind.TELLS, f -> f.count(a));
            for (int b : new int[] {MIN, -1, 0, 1, 3, 4, 6, 7, MAX}) {
                add("at(" + a + ", " + b + ")", Kind.TELLS, f -> f.at(a, b));
                add("bag(" + a + ", " + b + ")", Kind.TELLS, f -> f.bag(a, b));
                add("reason(" + a + ", " + b + ")", Kind.TELLS, f -> f.reason(a, b));
                add("made(" + a + ", " + b + ")", Kind.TELLS, f -> f.made(a, b));
            }
        }
        for (int depth : new int[] {MIN, -1, 0, 1, 2, 4, MAX}) {
            add("look(" + depth + ")", Kind.TELLS, f -> f.look(depth));
            add("best(" + depth + ")", Kind.TELLS, f -> f.best(depth));
        }
    }

    // -- The states

    private static void starts() {
        STARTS.add(new Start("new", x -> { }));
        STARTS.add(new Start("in the middle", RefusedTest::inTheMiddle));
        STARTS.add(new Start("tipped by a move", RefusedTest::tippedByAMove));
        STARTS.add(new Start("tipped by a set-up", RefusedTest::tippedByASetUp));
        STARTS.add(new Start("drawn", RefusedTest::drawn));
        STARTS.add(new Start("no token", RefusedTest::noToken));
        STARTS.add(new Start("all full", RefusedTest::allFull));
        STARTS.add(new Start("a full text", RefusedTest::fullText));
        STARTS.add(new Start("a text that stops", RefusedTest::textThatStops));
        STARTS.add(new Start("many moves", RefusedTest::manyMoves));
    }

    private static void write(Face x, String text) {
        x.clearText();
        for (int i = 0; i < text.length(); i++) {
            x.type(text.charAt(i));
        }
    }

    private static void emptyBag(Face x, int side) {
        for (int weight = 1; weight <= 5; weight++) {
            x.setBag(side, weight, 0);
        }
    }

    /** A snapshot, a stop, a text, and a history to which one more state drops the oldest. */
    private static void inTheMiddle(Face x) {
        x.set(2, 1);
        x.setUp(2, 6);
        x.keep();
        x.lay(2, -6);
        x.push(6, true);
        x.setBag(0, 2, 0);
        x.lay(1, -1);
        write(x, "1@1;1@1;6i");
        x.perform();
        write(x, "3@1;1@-1");
        x.push(5, true);
        x.setUp(1, 1);
    }

    private static void tippedByAMove(Face x) {
        x.set(2, 1);
        x.lay(1, 1);
        x.keep();
        x.lay(5, 6);
        write(x, "1@1");
        x.perform();
    }

    private static void tippedByASetUp(Face x) {
        x.set(3, 1);
        x.setUp(3, -6);
        write(x, "1@");
    }

    private static void drawn(Face x) {
        x.set(2, 1);
        x.setUp(1, 1);
        emptyBag(x, 0);
        emptyBag(x, 1);
        x.keep();
        write(x, "1o");
    }

    private static void noToken(Face x) {
        emptyBag(x, 0);
        x.setUp(1, 2);
        write(x, "1@1");
    }

    private static void allFull(Face x) {
        x.set(2, 1);
        for (int place = -6; place <= 6; place++) {
            x.setUp(1, place);
            x.setUp(1, place);
        }
        x.set(0, 1);
        write(x, "1@-1;2i");
        x.perform();
    }

    private static void fullText(Face x) {
        x.set(2, 1);
        x.setUp(1, 1);
        x.setUp(1, 6);
        write(x, "1o;6i;2i;5o;".repeat(5));
        x.perform();
    }

    private static void textThatStops(Face x) {
        x.lay(1, 1);
        x.lay(1, 1);
        write(x, "2@-1;2@-1;3i");
        x.perform();
        write(x, "5@-1;1@1");
    }

    private static void manyMoves(Face x) {
        x.set(2, 1);
        x.setUp(1, 1);
        x.setUp(1, 6);
        write(x, "1o;6i;2i;5o;1o;6i;2i;5o;1o");
        x.perform();
        for (int i = 0; i < 8; i++) {
            x.push(6, true);
            x.push(2, true);
            x.push(5, false);
            x.push(1, false);
        }
    }
}
