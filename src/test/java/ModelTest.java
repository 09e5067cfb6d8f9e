import java.util.List;
import java.util.Random;

/** Long runs of calls: each answer of the class against that of the model. */
public final class ModelTest {
    private static final int RUNS = 500;
    private static final int CALLS = 400;
    // A run ends while one object can still make all of its changes, and answer behind them.
    private static final int MOST_CHANGES = 320;
    private static final int WIDE_LOOKS = 40;
    private static final int[] ODD = {-1, 0, 7, 8, -7, 41, 100, Integer.MIN_VALUE, Integer.MAX_VALUE};

    private final Check check;
    private final Random random;
    private final String run;
    private final LastingBeam beam = new LastingBeam();
    private final Model model = new Model();
    // Runs are of kinds, so that some make many moves and others change much in between.
    private final int changes;

    private ModelTest(Check check, int seed) {
        this.check = check;
        this.random = new Random(seed);
        this.run = "run " + seed;
        this.changes = seed % 4;
    }

    public static void main(String[] args) {
        Check check = new Check();
        for (int seed = 0; seed < RUNS && !check.isWrong(); seed++) {
            new ModelTest(check, seed).callAll();
        }
        for (int seed = 0; seed < WIDE_LOOKS && !check.isWrong(); seed++) {
            new ModelTest(check, RUNS + seed).lookAtMany();
        }
        check.end("ModelTest");
    }

    /** Looks as far ahead as can be where many moves are possible. */
    private void lookAtMany() {
        set(0, any(1, 4));
        set(1, oneIn(3) ? any(3, 15) : any(0, 40));
        set(2, random.nextInt(2));
        set(3, oneIn(4) ? 1 : 0);
        for (int i = any(0, 12); i > 0; i--) {
            move();
        }
        for (int depth = 0; depth <= 3; depth++) {
            due("look(" + depth + ")", beam.look(depth), model.look(depth));
            due("best(" + depth + ")", beam.best(depth), model.best(depth));
        }
        due("play(3)", beam.play(3), model.play(3));
    }

    private void callAll() {
        prepare();
        for (int i = 0; i < CALLS && beam.changes() < MOST_CHANGES && !check.isWrong(); i++) {
            callOne();
            if (i % 8 == 0) {
                compareAll();
            }
        }
    }

    private void due(String call, int got, int want) {
        check.due(run + ": " + call, got, want);
    }

    private int any(int low, int high) {
        return low + random.nextInt(high - low + 1);
    }

    /** Mostly a number in its range, now and then another one. */
    private int some(int low, int high) {
        return random.nextInt(25) == 0 ? ODD[random.nextInt(ODD.length)] : any(low, high);
    }

    private boolean oneIn(int many) {
        return random.nextInt(many) == 0;
    }

    private void prepare() {
        set(1, oneIn(3) ? 40 : any(0, 40));
        set(0, any(1, 4));
        set(2, random.nextInt(2));
        set(3, random.nextInt(2));
        if (oneIn(2)) {
            // Few tokens, so that bags run empty and a look ahead sees ends.
            for (int side = 0; side < 2; side++) {
                for (int weight = 1; weight <= 5; weight++) {
                    setBag(side, weight, oneIn(3) ? any(0, 2) : 0);
                }
            }
        }
    }

    private void callOne() {
        int kind = random.nextInt(100);
        if (kind < 40) {
            move();
        } else if (kind < 52) {
            lookAhead();
        } else if (kind < 62) {
            if (random.nextInt(4) <= changes) {
                change();
            }
        } else if (kind < 70) {
            history();
        } else if (kind < 80) {
            writeAndPerform();
        } else if (kind < 82 && oneIn(4)) {
            due("begin()", beam.begin(), model.begin());
        } else {
            ask();
        }
    }

    private void move() {
        List<Model.Move> possible = model.now.possible();
        if (!possible.isEmpty() && !oneIn(5)) {
            Model.Move m = possible.get(random.nextInt(possible.size()));
            // A move that leaves the beam level makes the run longer.
            for (int i = 0; i < 4 && Math.abs(model.now.behind(m).turn()) > model.now.settings[1]; i++) {
                m = possible.get(random.nextInt(possible.size()));
            }
            if (m.number() <= 5) {
                lay(m.number(), m.place());
            } else {
                push(m.place(), m.number() == 6);
            }
        } else if (oneIn(2)) {
            lay(some(1, 5), some(-6, 6));
        } else {
            push(some(-6, 6), oneIn(2));
        }
        if (model.now.result() != 0 && oneIn(2)) {
            due("undo()", beam.undo(), model.undo());
        }
    }

    private void lay(int weight, int place) {
        due("lay(" + weight + ", " + place + ")", beam.lay(weight, place), model.lay(weight, place));
    }

    private void push(int place, boolean inward) {
        due("push(" + place + ", " + inward + ")", beam.push(place, inward), model.push(place, inward));
    }

    private void set(int which, int value) {
        due("set(" + which + ", " + value + ")", beam.set(which, value), model.set(which, value));
    }

    private void setBag(int side, int weight, int many) {
        due("setBag(" + side + ", " + weight + ", " + many + ")",
                beam.setBag(side, weight, many), model.setBag(side, weight, many));
    }

    /** The model goes through all moves, so that it only looks far where there are few. */
    private int affordableDepth() {
        int moves = model.count(8);
        if (oneIn(25)) {
            return ODD[random.nextInt(ODD.length)] == 7 ? 4 : -1;
        }
        return moves <= 16 || (moves <= 30 && oneIn(12)) ? any(0, 3) : moves <= 40 || oneIn(5) ? any(0, 2) : any(0, 1);
    }

    private void lookAhead() {
        int depth = affordableDepth();
        switch (random.nextInt(3)) {
            case 0:
                due("look(" + depth + ")", beam.look(depth), model.look(depth));
                break;
            case 1:
                due("best(" + depth + ")", beam.best(depth), model.best(depth));
                break;
            default:
                due("play(" + depth + ")", beam.play(depth), model.play(depth));
                break;
        }
    }

    private void change() {
        switch (random.nextInt(4)) {
            case 0:
                setBag(some(0, 1), some(1, 5), some(0, 6));
                break;
            case 1:
                set(some(0, 3), oneIn(2) ? some(0, 4) : some(0, 40));
                break;
            default:
                int weight = some(1, 5);
                int place = some(-6, 6);
                due("setUp(" + weight + ", " + place + ")", beam.setUp(weight, place), model.setUp(weight, place));
                break;
        }
    }

    private void history() {
        switch (random.nextInt(6)) {
            case 0:
                due("keep()", beam.keep(), model.keep());
                break;
            case 1:
                due("restore()", beam.restore(), model.restore());
                break;
            default:
                due("undo()", beam.undo(), model.undo());
                break;
        }
    }

    private void writeAndPerform() {
        if (!oneIn(8)) {
            due("clearText()", beam.clearText(), model.clearText());
        }
        StringBuilder text = new StringBuilder();
        Model.State then = model.now.copy();
        int moves = oneIn(5) ? any(1, 21) : any(1, 4);
        for (int i = 0; i < moves; i++) {
            text.append(i == 0 ? "" : ";").append(word(then));
        }
        if (oneIn(3)) {
            String signs = "1234567890-@io; xIO\u00e9\u2460";
            int index = random.nextInt(text.length());
            switch (random.nextInt(3)) {
                case 0:
                    text.setCharAt(index, signs.charAt(random.nextInt(signs.length())));
                    break;
                case 1:
                    text.deleteCharAt(index);
                    break;
                default:
                    text.insert(index, signs.charAt(random.nextInt(signs.length())));
                    break;
            }
        }
        for (char c : text.toString().toCharArray()) {
            due("type(" + c + ")", beam.type(c), model.type(c));
        }
        due("perform() of " + text, beam.perform(), model.perform());
        for (int what = 0; what < 2; what++) {
            due("stopped(" + what + ")", beam.stopped(what), model.stopped(what));
        }
    }

    /** Mostly a move that is possible then. */
    private String word(Model.State then) {
        List<Model.Move> possible = then.possible();
        Model.Move m = new Model.Move(any(1, 7), any(1, 6) * (oneIn(2) ? 1 : -1));
        if (!possible.isEmpty() && !oneIn(15)) {
            m = possible.get(random.nextInt(possible.size()));
            then.make(m);
        }
        return m.number() <= 5 ? m.number() + "@" + m.place() : m.place() + (m.number() == 6 ? "i" : "o");
    }

    private void ask() {
        int a = some(-7, 8);
        int b = some(-7, 8);
        due("at(" + a + ", " + b + ")", beam.at(a, b), model.at(a, b));
        due("bag(" + a + ", " + b + ")", beam.bag(a, b), model.bag(a, b));
        due("reason(" + a + ", " + b + ")", beam.reason(a, b), model.reason(a, b));
        due("levels(" + a + ")", beam.levels(a), model.levels(a));
        due("stopped(" + a + ")", beam.stopped(a), model.stopped(a));
        int rank = some(-1, 90);
        due("possible(" + rank + ")", beam.possible(rank), model.possible(rank));
        int back = some(-1, 45);
        due("made(" + back + ", " + a + ")", beam.made(back, a), model.made(back, a));
    }

    private void compareAll() {
        for (int what = -1; what <= 17; what++) {
            due("count(" + what + ")", beam.count(what), model.count(what));
        }
        for (int place = -7; place <= 7; place++) {
            for (int what = -1; what <= 4; what++) {
                due("at(" + place + ", " + what + ")", beam.at(place, what), model.at(place, what));
            }
            for (int number = 0; number <= 8; number++) {
                due("reason(" + number + ", " + place + ")", beam.reason(number, place), model.reason(number, place));
            }
        }
        for (int weight = -1; weight <= 6; weight++) {
            due("bag(0, " + weight + ")", beam.bag(0, weight), model.bag(0, weight));
            due("bag(1, " + weight + ")", beam.bag(1, weight), model.bag(1, weight));
            due("levels(" + weight + ")", beam.levels(weight), model.levels(weight));
        }
        for (int back = 0; back <= 41; back++) {
            for (int what = 0; what < 4; what++) {
                due("made(" + back + ", " + what + ")", beam.made(back, what), model.made(back, what));
            }
        }
        List<Model.Move> possible = model.now.possible();
        for (int rank = 0; rank < possible.size(); rank++) {
            due("possible(" + rank + ")", beam.possible(rank), possible.get(rank).told());
        }
        due("possible beyond", beam.possible(possible.size()), -10005);
    }
}
