/**
 * Each promise with arguments just below, at and just above each bound that its lines name, also
 * the least and the greatest int, and every error and NONE of its "Returns" line in that order.
 */
public final class BoundsTest {
    private static final int UNKNOWN = -10001;
    private static final int BAD_VALUE = -10002;
    private static final int FULL = -10003;
    private static final int NOT_POSSIBLE = -10004;
    private static final int NONE = -10005;
    private static final int NO_MOVE = -10010;
    private static final int FAULT = -10100;

    private static final int MIN = Integer.MIN_VALUE;
    private static final int MAX = Integer.MAX_VALUE;

    // Among the wrong ones are numbers that a cast to a byte or a short would make right.
    private static final int[] PLACES = {-6, -5, -4, -3, -2, -1, 1, 2, 3, 4, 5, 6};
    private static final int[] NO_PLACES = {
        MIN, MIN + 1, -65535, -257, -255, -13, -12, -8, -7, 0, 7, 8, 12, 13, 255, 257, 65535, 65537, MAX - 1, MAX};
    private static final int[] WEIGHTS = {1, 2, 3, 4, 5};
    private static final int[] NO_WEIGHTS = {MIN, MIN + 1, -65535, -255, -5, -1, 0, 6, 7, 257, 65537, MAX - 1, MAX};
    private static final int[] NO_SIDES = {MIN, -256, -2, -1, 2, 3, 256, 257, 65536, MAX};
    private static final int[] NO_MANY = {MIN, -65536, -256, -2, -1, 7, 8, 256, 65536, MAX};
    private static final int[] NO_DEPTHS = {MIN, -255, -2, -1, 4, 5, 257, 65537, MAX};

    private static final Check CHECK = new Check();

    public static void main(String[] args) {
        lay();
        layInOrder();
        push();
        pushInOrder();
        play();
        playInOrder();
        setBag();
        set();
        setInOrder();
        setUp();
        setUpInOrder();
        begin();
        type();
        clearText();
        performInOrder();
        performTheMost();
        stopped();
        stoppedByEachReason();
        undo();
        keepAndRestore();
        at();
        bag();
        reason();
        reasonInOrder();
        possible();
        possibleMost();
        look();
        best();
        levels();
        levelsAtItsBounds();
        made();
        madeOfForty();
        count();
        countAtItsBounds();
        CHECK.end("BoundsTest");
    }

    private static void due(String call, long got, long want) {
        CHECK.due(call, got, want);
    }

    private static void emptyBag(Face x, int side) {
        for (int weight : WEIGHTS) {
            x.setBag(side, weight, 0);
        }
    }

    private static void write(Face x, String text) {
        x.clearText();
        for (int i = 0; i < text.length(); i++) {
            x.type(text.charAt(i));
        }
    }

    private static int performs(Face x, String text) {
        write(x, text);
        return x.perform();
    }

    /** A beam with as many tokens as it can hold, the heaviest ones; the turn is 0. */
    private static LastingBeam fullBeam() {
        LastingBeam x = new LastingBeam();
        x.set(0, 4);
        for (int place : PLACES) {
            for (int i = 0; i < 4; i++) {
                x.setUp(5, place);
            }
        }
        return x;
    }

    /** A beam that tipped without a move; neither bag has a 1, and the place 6 is full. */
    private static LastingBeam tipped() {
        LastingBeam x = new LastingBeam();
        x.setUp(4, 6);
        x.setUp(4, -6);
        x.setUp(4, 6);
        x.set(1, 0);
        x.setBag(0, 1, 0);
        x.setBag(1, 1, 0);
        return x;
    }

    // -- Promise 2

    private static void lay() {
        for (int weight : WEIGHTS) {
            for (int place : PLACES) {
                String call = "lay(" + weight + ", " + place + ")";
                LastingBeam x = new LastingBeam();
                due(call, x.lay(weight, place), weight * place);
                due(call + ": tokens there", x.at(place, 0), 1);
                due(call + ": its weight", x.at(place, 2), weight);
                due(call + ": the bag", x.bag(0, weight), 1);
                due(call + ": all of the bag", x.bag(0, 0), 9);
                due(call + ": the other bag", x.bag(1, 0), 10);
                due(call + ": tokens", x.count(6), 1);
                due(call + ": result", x.count(2), Math.abs(weight * place) <= 8 ? 0 : 2);
            }
        }
        LastingBeam x = new LastingBeam();
        for (int weight : NO_WEIGHTS) {
            for (int place : PLACES) {
                due("lay(" + weight + ", " + place + ")", x.lay(weight, place), UNKNOWN);
            }
            for (int place : NO_PLACES) {
                due("lay(" + weight + ", " + place + ")", x.copy().lay(weight, place), UNKNOWN);
            }
        }
        LastingBeam y = new LastingBeam();
        for (int weight : WEIGHTS) {
            for (int place : NO_PLACES) {
                due("lay(" + weight + ", " + place + ")", y.lay(weight, place), UNKNOWN);
            }
        }
        due("none was laid", x.count(6) + y.count(6), 0);
    }

    private static void layInOrder() {
        LastingBeam x = tipped();
        due("all of it wrong: the weight", x.lay(6, 6), UNKNOWN);
        due("all of it wrong: the place", x.lay(1, 7), UNKNOWN);
        due("over, none in the bag, full", x.lay(1, 6), NO_MOVE - 1);
        due("over, full", x.lay(2, 6), NO_MOVE - 1);
        due("over, none in the bag", x.lay(1, 1), NO_MOVE - 1);
        due("over alone", x.lay(2, 1), NO_MOVE - 1);
        x.set(1, 24);
        due("none in the bag, full", x.lay(1, 6), NO_MOVE - 2);
        due("none in the bag alone", x.lay(1, 1), NO_MOVE - 2);
        due("full alone", x.lay(2, 6), NO_MOVE - 4);
        due("none in the bag: the place is looked at first", x.lay(1, 0), UNKNOWN);
        due("full: the weight is looked at first", x.lay(0, 6), UNKNOWN);
        x.setBag(0, 1, 1);
        due("one in the bag", x.lay(1, -6), 18);
        due("the side 1 has none", x.lay(1, 1), NO_MOVE - 2);
        x.set(0, 3);
        due("not full any more", x.lay(2, 6), 30);
        due("over by that", x.lay(2, 1), NO_MOVE - 1);

        LastingBeam y = new LastingBeam();
        due("two of a weight", y.lay(1, 1), 1);
        due("of the other bag", y.lay(1, -1), 0);
        due("the second one", y.lay(1, 2), 2);
        due("the second one of the other bag", y.lay(1, -2), 0);
        due("a third one", y.lay(1, 3), NO_MOVE - 2);
        due("another weight", y.lay(2, 3), 6);
        due("a third one of the other bag", y.lay(1, 3), NO_MOVE - 2);
    }

    // -- Promise 3

    private static void push() {
        for (int place : PLACES) {
            for (int way = 0; way < 2; way++) {
                boolean inward = way == 1;
                String call = "push(" + place + ", " + inward + ")";
                LastingBeam x = new LastingBeam();
                x.set(2, 1);
                x.set(1, 40);
                x.setUp(3, place);
                int target = targetOf(place, inward);
                if (target == 0) {
                    due(call, x.push(place, inward), NO_MOVE - 4);
                    continue;
                }
                due(call, x.push(place, inward), 3 * target);
                due(call + ": came there", x.at(target, 2), 3);
                due(call + ": left its place", x.at(place, 0), 0);
                due(call + ": its number", x.made(0, 1), inward ? 6 : 7);
                due(call + ": its place", x.made(0, 2), place);
                due(call + ": what it told", x.made(0, 3), 3 * (target - place));
                due(call + ": the bags", x.bag(0, 0) + x.bag(1, 0), 20);
                due(call + ": the side", x.count(0), 1);
            }
        }
        LastingBeam x = new LastingBeam();
        x.set(2, 1);
        for (int place : PLACES) {
            x.setUp(1, place);
        }
        for (int place : NO_PLACES) {
            due("push(" + place + ", true)", x.push(place, true), UNKNOWN);
            due("push(" + place + ", false)", x.push(place, false), UNKNOWN);
        }
        due("none was moved", x.count(3), 0);
    }

    /** The places are told one by one: 0 stands for none. */
    private static int targetOf(int place, boolean inward) {
        int[] inwards = {-5, -4, -3, -2, -1, 1, 0, -1, 1, 2, 3, 4, 5};
        int[] outwards = {0, -6, -5, -4, -3, -2, 0, 2, 3, 4, 5, 6, 0};
        return inward ? inwards[place + 6] : outwards[place + 6];
    }

    private static void pushInOrder() {
        LastingBeam x = tipped();
        for (int way = 0; way < 2; way++) {
            boolean inward = way == 1;
            due("over: no place", x.push(0, inward), UNKNOWN);
            due("over: no place", x.push(7, inward), UNKNOWN);
            due("over, no moving, nothing there", x.push(5, inward), NO_MOVE - 1);
            due("over, no moving", x.push(6, inward), NO_MOVE - 1);
        }
        x.set(2, 1);
        due("over, nothing there", x.push(5, true), NO_MOVE - 1);
        due("over, none beyond", x.push(6, false), NO_MOVE - 1);
        due("over alone", x.push(6, true), NO_MOVE - 1);
        x.set(2, 0);
        x.set(1, 40);
        due("no moving: no place", x.push(-7, true), UNKNOWN);
        due("no moving, nothing there", x.push(5, true), NO_MOVE - 2);
        due("no moving, none beyond", x.push(6, false), NO_MOVE - 2);
        due("no moving alone", x.push(6, true), NO_MOVE - 2);
        x.set(2, 1);
        due("nothing there alone", x.push(5, true), NO_MOVE - 3);
        due("none beyond alone", x.push(6, false), NO_MOVE - 4);
        due("none beyond on the other arm", x.push(-6, false), NO_MOVE - 4);
        due("it goes", x.push(6, true), 20);
        due("and back", x.push(-6, true), 24);
        x.setUp(1, 4);
        x.setUp(1, 4);
        due("full alone", x.push(5, true), NO_MOVE - 4);
        due("outward", x.push(5, false), 36);
        due("just before, none beyond", x.push(6, false), NO_MOVE - 3);
        due("just before alone", x.push(6, true), NO_MOVE - 3);

        LastingBeam y = new LastingBeam();
        y.set(2, 1);
        y.set(1, 40);
        y.setUp(1, 6);
        due("nothing there, none beyond", y.push(-6, false), NO_MOVE - 3);
        y.setUp(1, -5);
        y.setUp(1, -5);
        y.setUp(1, -6);
        due("full", y.push(-6, true), NO_MOVE - 4);
        y.set(0, 3);
        due("not full any more", y.push(-6, true), -9);
        y.set(0, 1);
        y.setUp(1, -4);
        due("just before, full", y.push(-5, true), NO_MOVE - 3);
        y.set(1, 12);
        due("over, just before, full", y.push(-5, true), NO_MOVE - 1);
    }

    // -- Promise 4

    private static void play() {
        LastingBeam x = new LastingBeam();
        due("play(0)", x.play(0), BAD_VALUE);
        for (int depth : NO_DEPTHS) {
            due("play(" + depth + ")", x.play(depth), BAD_VALUE);
        }
        due("no move was made", x.count(3), 0);
        for (int depth = 1; depth <= 3; depth++) {
            due("play(" + depth + ")", new LastingBeam().play(depth), -1);
        }
    }

    private static void playInOrder() {
        LastingBeam[] none = {tipped(), drawn(), fullBeam(), withoutTokens(0)};
        for (int i = 0; i < none.length; i++) {
            due("no move, play(0) of " + i, none[i].play(0), BAD_VALUE);
            due("no move, play(4) of " + i, none[i].play(4), BAD_VALUE);
            due("no move, play(min) of " + i, none[i].play(MIN), BAD_VALUE);
            due("no move, play(max) of " + i, none[i].play(MAX), BAD_VALUE);
            for (int depth = 1; depth <= 3; depth++) {
                due("no move, play(" + depth + ") of " + i, none[i].play(depth), NOT_POSSIBLE);
            }
        }
        LastingBeam x = withoutTokens(1);
        due("the other bag does not matter", x.play(3), -1);
    }

    private static LastingBeam drawn() {
        LastingBeam x = withoutTokens(0);
        emptyBag(x, 1);
        return x;
    }

    private static LastingBeam withoutTokens(int side) {
        LastingBeam x = new LastingBeam();
        emptyBag(x, side);
        return x;
    }

    // -- Promise 5

    private static void setBag() {
        for (int side = 0; side <= 1; side++) {
            for (int weight : WEIGHTS) {
                setBagTo(side, weight);
            }
        }
        LastingBeam x = new LastingBeam();
        for (int side : NO_SIDES) {
            due("setBag(" + side + ", 1, 1)", x.setBag(side, 1, 1), UNKNOWN);
            due("setBag(" + side + ", 0, 1)", x.setBag(side, 0, 1), UNKNOWN);
            due("setBag(" + side + ", 1, 7): the side first", x.setBag(side, 1, 7), UNKNOWN);
            due("setBag(" + side + ", 1, 2): the side first", x.setBag(side, 1, 2), UNKNOWN);
        }
        for (int weight : NO_WEIGHTS) {
            due("setBag(0, " + weight + ", 1)", x.setBag(0, weight, 1), UNKNOWN);
            due("setBag(1, " + weight + ", 1)", x.setBag(1, weight, 1), UNKNOWN);
            due("setBag(0, " + weight + ", -1): the weight first", x.setBag(0, weight, -1), UNKNOWN);
            due("setBag(1, " + weight + ", 2): the weight first", x.setBag(1, weight, 2), UNKNOWN);
        }
        due("no act", x.count(15), 0);
        due("nothing in the bags", x.bag(0, 0) + x.bag(1, 0), 20);
    }

    private static void setBagTo(int side, int weight) {
        String bag = "setBag(" + side + ", " + weight + ", ";
        LastingBeam x = new LastingBeam();
        int before = 2;
        for (int many : new int[] {2, 1, 0, 0, 1, 6, 6, 5, 3, 4}) {
            due(bag + many + ")", x.setBag(side, weight, many), many == before ? NONE : before);
            due(bag + many + "): then", x.bag(side, weight), many);
            due(bag + many + "): of all", x.bag(side, 0), 8 + many);
            due(bag + many + "): of the other", x.bag(1 - side, 0), 10);
            before = many;
        }
        for (int many : NO_MANY) {
            due(bag + many + ")", x.setBag(side, weight, many), BAD_VALUE);
        }
        due(bag + "..): then", x.bag(side, weight), 4);
    }

    // -- Promise 6

    private static void set() {
        int[] least = {1, 0, 0, 0};
        int[] most = {4, 40, 1, 1};
        int[] first = {2, 8, 0, 0};
        for (int which = 0; which < 4; which++) {
            LastingBeam x = new LastingBeam();
            int before = first[which];
            for (int value = least[which]; value <= most[which]; value++) {
                String call = "set(" + which + ", " + value + ")";
                due(call, x.set(which, value), value == before ? NONE : before);
                due(call + ": then", x.count(11 + which), value);
                due(call + " again", x.set(which, value), NONE);
                before = value;
            }
            int[] wrong = {MIN, MIN + 1, -65536 + least[which], -256 + least[which], -1, least[which] - 1,
                most[which] + 1, most[which] + 2, 256 + least[which], 65536 + least[which], MAX - 1, MAX};
            for (int value : wrong) {
                due("set(" + which + ", " + value + ")", x.set(which, value), BAD_VALUE);
            }
            due("set(" + which + ", ..): then", x.count(11 + which), most[which]);
            for (int other = 0; other < 4; other++) {
                due("another setting", x.count(11 + other), other == which ? most[which] : first[other]);
            }
        }
    }

    private static void setInOrder() {
        LastingBeam x = new LastingBeam();
        for (int which : new int[] {MIN, -256, -2, -1, 4, 5, 256, 65536, MAX}) {
            for (int value : new int[] {0, 1, 2, 8, 41, -1, MIN, MAX}) {
                due("set(" + which + ", " + value + ")", x.set(which, value), UNKNOWN);
            }
        }
        due("no act", x.count(15), 0);
        // Places that hold more already keep what they hold.
        x.set(0, 4);
        for (int i = 0; i < 4; i++) {
            x.setUp(1, 1);
            x.setUp(1, -1);
        }
        for (int value = 3; value >= 1; value--) {
            due("fewer", x.set(0, value), value + 1);
            due("they keep four", x.at(1, 0), 4);
            due("they keep four", x.at(-1, 0), 4);
            due("they keep four", x.count(6), 8);
        }
    }

    // -- Promise 7

    private static void setUp() {
        for (int weight : WEIGHTS) {
            for (int place : PLACES) {
                String call = "setUp(" + weight + ", " + place + ")";
                LastingBeam x = new LastingBeam();
                due(call, x.setUp(weight, place), weight * place);
                due(call + ": tokens there", x.at(place, 0), 1);
                due(call + ": its weight", x.at(place, 2), weight);
                due(call + ": the bags", x.bag(0, 0) + x.bag(1, 0), 20);
                due(call + ": the side", x.count(0), 0);
                due(call + ": no move", x.count(3), 0);
                due(call + ": what it changed", x.count(5), weight * place);
            }
        }
        LastingBeam x = new LastingBeam();
        for (int weight : NO_WEIGHTS) {
            for (int place : PLACES) {
                due("setUp(" + weight + ", " + place + ")", x.setUp(weight, place), UNKNOWN);
            }
            for (int place : NO_PLACES) {
                due("setUp(" + weight + ", " + place + ")", x.copy().setUp(weight, place), UNKNOWN);
            }
        }
        LastingBeam y = new LastingBeam();
        for (int weight : WEIGHTS) {
            for (int place : NO_PLACES) {
                due("setUp(" + weight + ", " + place + ")", y.setUp(weight, place), UNKNOWN);
            }
        }
        due("none was set up", x.count(6) + y.count(6), 0);
    }

    private static void setUpInOrder() {
        for (int height = 1; height <= 4; height++) {
            for (int place : PLACES) {
                LastingBeam x = new LastingBeam();
                x.set(0, height);
                for (int i = 1; i <= height; i++) {
                    due("the " + i + ". of " + height, x.setUp(i, place), i * (i + 1) / 2 * place);
                    due("the uppermost one", x.at(place, 2), i);
                }
                due("one more than " + height, x.setUp(1, place), FULL);
                due("full: the weight first", x.setUp(0, place), UNKNOWN);
                due("full: the weight first", x.setUp(6, place), UNKNOWN);
                due("so many", x.at(place, 0), height);
                int other = place == 6 ? -6 : 6;
                due("another place", x.setUp(1, other), height * (height + 1) / 2 * place + other);
            }
        }
        LastingBeam x = new LastingBeam();
        x.setUp(1, 1);
        x.setUp(1, 1);
        x.set(0, 1);
        due("it holds more than it can", x.setUp(1, 1), FULL);
    }

    // -- Promise 8

    private static void begin() {
        LastingBeam x = fullBeam();
        due("the most tokens", x.begin(), 48);
        due("none", x.begin(), 0);
        due("each is an act", x.count(15), 4);
        x.setUp(1, -6);
        due("one", x.begin(), 1);
        x.setUp(1, 6);
        x.setUp(1, 6);
        due("two on one place", x.begin(), 2);
        due("four can lie still", x.count(11), 4);
        x.undo();
        due("undone", x.at(6, 0), 2);
        LastingBeam y = tipped();
        due("over", y.begin(), 3);
        due("it goes on", y.count(2), 0);
    }

    // -- Promises 9 and 10

    private static void type() {
        for (int first = 0; first <= 65535; first += 60) {
            LastingBeam x = new LastingBeam();
            int typed = 0;
            for (int c = first; c < first + 60 && c <= 65535; c++) {
                typed++;
                due("type of " + c, x.type((char) c), typed);
            }
            due("length", x.count(16), typed);
        }
        LastingBeam x = new LastingBeam();
        for (int length = 1; length <= 60; length++) {
            due("type", x.type('-'), length);
            due("length", x.count(16), length);
        }
        for (char c : new char[] {'1', ';', 0, 255, 256, 65535}) {
            due("the 61st", x.type(c), FULL);
        }
        due("length", x.count(16), 60);
    }

    private static void clearText() {
        for (int length : new int[] {0, 1, 2, 59, 60}) {
            LastingBeam x = new LastingBeam();
            for (int i = 0; i < length; i++) {
                x.type('1');
            }
            due("a text of " + length, x.clearText(), length);
            due("the empty one", x.clearText(), 0);
            due("length", x.count(16), 0);
            due("the empty one ends too early", x.perform(), FAULT);
            due("the first again", x.type('1'), 1);
        }
    }

    // -- Promise 11

    private static void performInOrder() {
        LastingBeam x = tipped();
        due("a fault at its beginning ahead of a stop", performs(x, "x@1;1@1"), FAULT);
        due("a fault behind a move that is not possible", performs(x, "1@1;2@7"), FAULT - 6);
        due("an end that comes too early ahead of a stop", performs(x, "1@1;"), FAULT - 4);
        due("no text ahead of a stop", performs(x, ""), FAULT);
        due("a fault is no stop", x.stopped(0), NONE);
        due("a stop", performs(x, "1@1"), NOT_POSSIBLE);
        due("its number", x.stopped(0), 0);
        due("its reason", x.stopped(1), 1);
        StringBuilder text = new StringBuilder();
        for (int i = 0; i < 60; i++) {
            due("a fault at " + i, performs(new LastingBeam(), text + "?"), FAULT - i);
            text.append("1@1;".charAt(i % 4));
        }
        due("sixty, and none further", performs(new LastingBeam(), text.toString()), FAULT - 60);
    }

    private static void performTheMost() {
        LastingBeam x = new LastingBeam();
        x.set(0, 4);
        x.set(1, 40);
        x.set(2, 1);
        for (int weight = 1; weight <= 3; weight++) {
            x.setBag(0, weight, 6);
            x.setBag(1, weight, 6);
        }
        due("one move, the shortest", performs(x, "1@1"), 1);
        due("one move, the longest", performs(x, "1@-1"), 1);
        x.begin();
        // A move of four characters, fourteen of three, and what stands between them.
        String sixty = "4@-6;1@6;1@6;1@5;1@4;1@3;1@2;1@1;1@1;2@1;2@1;2@2;2@3;3@3;3@2";
        due("so long", sixty.length(), 60);
        due("a text of sixty characters", performs(x, sixty), 15);
        due("the 61st character", x.type(';'), FULL);
        due("the text stays as it was", x.count(16), 60);
        due("so many moves", x.count(3), 15);
        x.begin();
        x.setUp(1, 1);
        x.setUp(1, 6);
        // The most moves that there can be: two tokens to and fro.
        String twenty = "1o;6i;2i;5o;".repeat(5);
        due("twenty moves", performs(x, twenty.substring(0, 59)), 20);
        due("once more", x.perform(), 20);
        due("moves so far", x.count(3), 40);
        due("two acts", x.undo(), 3);
        due("moves so far", x.count(3), 20);
        due("with one more \";\" it ends too early", performs(x, twenty), FAULT - 60);
    }

    // -- Promise 12

    private static void stopped() {
        int[] wrong = {MIN, -256, -2, -1, 2, 3, 256, 257, 65536, MAX};
        LastingBeam x = new LastingBeam();
        for (int what : wrong) {
            due("none yet: stopped(" + what + ")", x.stopped(what), BAD_VALUE);
        }
        due("none yet", x.stopped(0), NONE);
        due("none yet", x.stopped(1), NONE);
        performs(x, "1@1");
        due("a text that was not stopped", x.stopped(0), NONE);
        performs(x, "1@1;1@1;1@1");
        due("the third move", x.stopped(0), 1);
        due("full", x.stopped(1), 4);
        for (int what : wrong) {
            due("stopped(" + what + ")", x.stopped(what), BAD_VALUE);
        }
    }

    private static void stoppedByEachReason() {
        LastingBeam x = new LastingBeam();
        x.set(2, 1);
        x.setUp(1, 1);
        x.setUp(1, 6);
        x.setUp(1, -4);
        x.setUp(1, 4);
        x.setUp(1, -4);
        x.setUp(1, 4);
        String nineteen = "1o;6i;2i;5o;".repeat(5).substring(0, 57);
        String[] texts = {"5@-6;1@1", "1@-3;1@3;1@-3;1@-3", "2i;1@1", "1o;2o", "6i;5o", "1o;6o", "1o;6i;5i",
            nineteen + "3i", nineteen + "1o", nineteen + "5i", "-6o", "4o;-4o;6o"};
        int[] moves = {1, 3, 0, 1, 1, 1, 2, 19, 19, 19, 0, 2};
        int[] reasons = {1, 4, 3, 3, 3, 4, 3, 3, 3, 4, 3, 4};
        for (int i = 0; i < texts.length; i++) {
            due("perform of " + texts[i], performs(x, texts[i]), NOT_POSSIBLE);
            due(texts[i] + ": number", x.stopped(0), moves[i]);
            due(texts[i] + ": reason", x.stopped(1), reasons[i]);
            due(texts[i] + ": nothing was made", x.count(3), 0);
        }
        x.setBag(0, 2, 1);
        due("the second 2", performs(x, "2@-1;1@1;2@-1;1@1"), NOT_POSSIBLE);
        due("the third move", x.stopped(0), 2);
        due("none in the bag", x.stopped(1), 2);
        x.set(2, 0);
        due("no moving", performs(x, "2@-1;1@1;-4i"), NOT_POSSIBLE);
        due("the third move", x.stopped(0), 2);
        due("no moving", x.stopped(1), 2);
    }

    // -- Promise 13

    private static void undo() {
        for (int acts = 0; acts <= 6; acts++) {
            LastingBeam x = new LastingBeam();
            due("undo of none", x.undo(), NONE);
            for (int i = 1; i <= acts; i++) {
                x.set(1, 20 + i);
                due("states", x.count(15), Math.min(i, 4));
            }
            int kept = Math.min(acts, 4);
            for (int left = kept - 1; left >= 0; left--) {
                due("undo", x.undo(), left);
                due("states", x.count(15), left);
                int act = acts - (kept - left);
                due("the state of then", x.count(12), act == 0 ? 8 : 20 + act);
            }
            due("no more", x.undo(), NONE);
            due("no more, again", x.undo(), NONE);
            due("no states", x.count(15), 0);
        }
    }

    // -- Promises 14 and 15

    private static void keepAndRestore() {
        LastingBeam x = new LastingBeam();
        due("no snapshot", x.restore(), NONE);
        due("no act", x.count(15), 0);
        due("keep of none", x.keep(), 0);
        due("restore of none", x.restore(), 0);
        due("restore of what is there already is an act", x.count(15), 1);
        LastingBeam y = fullBeam();
        due("no snapshot", y.restore(), NONE);
        due("keep of the most", y.keep(), 48);
        y.begin();
        due("restore of the most", y.restore(), 48);
        due("again", y.restore(), 48);
        due("acts", y.count(15), 4);
        y.begin();
        y.setUp(1, 1);
        due("keep of one", y.keep(), 1);
        y.begin();
        due("restore of one", y.restore(), 1);
    }

    // -- Promise 16

    private static void at() {
        LastingBeam x = new LastingBeam();
        x.set(0, 4);
        for (int place : PLACES) {
            for (int height = 0; height <= 4; height++) {
                if (height > 0) {
                    x.setUp(height, place);
                }
                int sum = height * (height + 1) / 2;
                due("at(" + place + ", 0)", x.at(place, 0), height);
                due("at(" + place + ", 1)", x.at(place, 1), sum);
                due("at(" + place + ", 2)", x.at(place, 2), height == 0 ? NONE : height);
                due("at(" + place + ", 3)", x.at(place, 3), sum * place);
            }
        }
        for (int what : new int[] {MIN, -256, -2, -1, 4, 5, 256, 65536, MAX}) {
            for (int place : PLACES) {
                due("at(" + place + ", " + what + ")", x.at(place, what), BAD_VALUE);
            }
            for (int place : NO_PLACES) {
                due("at(" + place + ", " + what + ")", x.at(place, what), UNKNOWN);
            }
        }
        for (int place : NO_PLACES) {
            for (int what = 0; what <= 3; what++) {
                due("at(" + place + ", " + what + ")", x.at(place, what), UNKNOWN);
            }
        }
        LastingBeam y = new LastingBeam();
        due("empty: bad value first", y.at(1, 4), BAD_VALUE);
        due("empty: bad value first", y.at(1, -1), BAD_VALUE);
        LastingBeam z = fullBeam();
        due("the most that is told", z.at(6, 3), 120);
        due("the least that is told", z.at(-6, 3), -120);
        due("the most weight", z.at(1, 1), 20);
    }

    // -- Promise 17

    private static void bag() {
        LastingBeam x = new LastingBeam();
        int[][] many = {{0, 1, 3, 5, 6}, {6, 4, 6, 0, 1}};
        for (int side = 0; side <= 1; side++) {
            for (int weight : WEIGHTS) {
                x.setBag(side, weight, many[side][weight - 1]);
            }
        }
        due("bag(0, 0)", x.bag(0, 0), 15);
        due("bag(1, 0)", x.bag(1, 0), 17);
        for (int side = 0; side <= 1; side++) {
            for (int weight : WEIGHTS) {
                due("bag(" + side + ", " + weight + ")", x.bag(side, weight), many[side][weight - 1]);
            }
            for (int weight : NO_WEIGHTS) {
                if (weight != 0) {
                    due("bag(" + side + ", " + weight + ")", x.bag(side, weight), UNKNOWN);
                }
            }
        }
        for (int side : NO_SIDES) {
            for (int weight = -1; weight <= 6; weight++) {
                due("bag(" + side + ", " + weight + ")", x.bag(side, weight), UNKNOWN);
            }
        }
        for (int side = 0; side <= 1; side++) {
            for (int weight : WEIGHTS) {
                x.setBag(side, weight, 6);
            }
            due("the most", x.bag(side, 0), 30);
            emptyBag(x, side);
            due("none", x.bag(side, 0), 0);
        }
    }

    // -- Promise 18

    private static void reason() {
        int[] noNumbers = {MIN, -65535, -255, -1, 0, 8, 9, 257, 65537, MAX};
        LastingBeam x = new LastingBeam();
        for (int number : noNumbers) {
            for (int place : PLACES) {
                due("reason(" + number + ", " + place + ")", x.reason(number, place), BAD_VALUE);
            }
            for (int place : NO_PLACES) {
                due("reason(" + number + ", " + place + ")", x.reason(number, place), BAD_VALUE);
            }
        }
        for (int number = 1; number <= 7; number++) {
            for (int place : PLACES) {
                due("reason(" + number + ", " + place + ")", x.reason(number, place), number < 6 ? 0 : 2);
            }
            for (int place : NO_PLACES) {
                due("reason(" + number + ", " + place + ")", x.reason(number, place), UNKNOWN);
            }
        }
        LastingBeam y = tipped();
        due("over: bad value first", y.reason(0, 1), BAD_VALUE);
        due("over: bad value first", y.reason(8, 0), BAD_VALUE);
        due("over: then unknown", y.reason(7, 0), UNKNOWN);
        due("over: then unknown", y.reason(1, -7), UNKNOWN);
        for (int number = 1; number <= 7; number++) {
            for (int place : PLACES) {
                due("over", y.reason(number, place), 1);
            }
        }
    }

    private static void reasonInOrder() {
        LastingBeam x = tipped();
        x.set(1, 40);
        due("none in the bag, full", x.reason(1, 6), 2);
        due("none in the bag", x.reason(1, -6), 2);
        due("full", x.reason(2, 6), 4);
        due("it goes", x.reason(2, -6), 0);
        due("no moving, nothing there, none beyond", x.reason(7, 1), 2);
        due("no moving, none beyond", x.reason(7, 6), 2);
        x.set(2, 1);
        due("nothing there", x.reason(6, 1), 3);
        due("none beyond", x.reason(7, 6), 4);
        due("it goes", x.reason(6, 6), 0);
        x.setUp(1, 5);
        x.setUp(1, 5);
        due("full inward", x.reason(6, 6), 4);
        due("full outward", x.reason(7, 5), 4);
        x.push(5, true);
        due("just before, free", x.reason(6, 4), 3);
        due("just before, free outward", x.reason(7, 4), 3);
        due("free now", x.reason(6, 6), 0);
        x.setUp(1, 3);
        x.setUp(1, 3);
        due("just before, full", x.reason(6, 4), 3);
        x.lay(5, -1);
        due("the latest move is another one", x.reason(6, 4), 4);
        due("outward", x.reason(7, 4), 0);
    }

    // -- Promise 19

    private static void possible() {
        LastingBeam x = new LastingBeam();
        for (int rank : new int[] {MIN, MIN + 1, -65536, -256, -84, -60, -2, -1}) {
            due("possible(" + rank + ")", x.possible(rank), BAD_VALUE);
            due("over: possible(" + rank + ")", tipped().possible(rank), BAD_VALUE);
            due("drawn: possible(" + rank + ")", drawn().possible(rank), BAD_VALUE);
        }
        due("the first", x.possible(0), 144);
        due("the second", x.possible(1), 145);
        due("the last but one", x.possible(58), 555);
        due("the last", x.possible(59), 556);
        for (int rank : new int[] {60, 61, 83, 84, 85, 256, 65536, MAX - 1, MAX}) {
            due("possible(" + rank + ")", x.possible(rank), NONE);
        }
        for (int rank : new int[] {0, 1, 59, MAX}) {
            due("over", tipped().possible(rank), NONE);
            due("drawn", drawn().possible(rank), NONE);
            due("no token", withoutTokens(0).possible(rank), NONE);
            due("all full", fullBeam().possible(rank), NONE);
        }
        LastingBeam y = withoutTokens(0);
        y.setBag(0, 5, 1);
        y.set(0, 1);
        for (int place : PLACES) {
            if (place != -6) {
                y.setUp(1, place);
            }
        }
        due("one move alone", y.possible(0), 544);
        due("no second one", y.possible(1), NONE);
    }

    /** The most moves that there can be: a token on each place, and a place free above it. */
    private static void possibleMost() {
        LastingBeam x = new LastingBeam();
        x.set(2, 1);
        x.set(1, 40);
        for (int place : PLACES) {
            x.setUp(1, place);
        }
        int rank = 0;
        for (int weight : WEIGHTS) {
            for (int place : PLACES) {
                due("possible(" + rank + ")", x.possible(rank), 100 * weight + place + 50);
                rank++;
            }
        }
        for (int place : PLACES) {
            due("possible(" + rank + ")", x.possible(rank), 650 + place);
            rank++;
            if (place != -6 && place != 6) {
                due("possible(" + rank + ")", x.possible(rank), 750 + place);
                rank++;
            }
        }
        due("so many", rank, 82);
        due("no more", x.possible(rank), NONE);
        due("count(8)", x.count(8), 82);
        due("all are safe", x.count(9), 82);
    }

    // -- Promises 20 and 21

    private static void look() {
        LastingBeam[] all = {new LastingBeam(), tipped(), drawn(), fullBeam(), withoutTokens(0)};
        int[] wanted = {0, 1, 0, 0, 0};
        for (int i = 0; i < all.length; i++) {
            for (int depth = 0; depth <= 3; depth++) {
                due("look(" + depth + ") of " + i, all[i].look(depth), wanted[i]);
            }
            for (int depth : NO_DEPTHS) {
                due("look(" + depth + ") of " + i, all[i].look(depth), BAD_VALUE);
            }
        }
    }

    private static void best() {
        LastingBeam[] all = {new LastingBeam(), tipped(), drawn(), fullBeam(), withoutTokens(0)};
        int[] wanted = {149, NONE, NONE, NONE, NONE};
        for (int i = 0; i < all.length; i++) {
            due("best(0) of " + i, all[i].best(0), BAD_VALUE);
            for (int depth : NO_DEPTHS) {
                due("best(" + depth + ") of " + i, all[i].best(depth), BAD_VALUE);
            }
            for (int depth = 1; depth <= 3; depth++) {
                due("best(" + depth + ") of " + i, all[i].best(depth), wanted[i]);
            }
        }
        // The first and the last move that there can be.
        LastingBeam x = withoutTokens(0);
        x.set(2, 1);
        x.set(0, 1);
        for (int place : PLACES) {
            if (place != 5) {
                x.setUp(place == 6 ? 2 : 1, place);
            }
        }
        due("laying is not possible", x.possible(0), 754);
        due("two moves", x.count(8), 2);
        due("the last of them", x.possible(1), 656);
        due("6 inward is nearer to 0", x.best(1), 656);
        x.begin();
        x.setBag(0, 1, 1);
        x.setUp(1, 6);
        due("the first of all", x.best(1), 144);
        due("and so by each depth", x.best(3), 144);
    }

    // -- Promise 22

    private static void levels() {
        LastingBeam x = new LastingBeam();
        x.setUp(2, -3);
        for (int weight : NO_WEIGHTS) {
            due("levels(" + weight + ")", x.levels(weight), UNKNOWN);
            due("over: levels(" + weight + ")", tipped().levels(weight), UNKNOWN);
        }
        int[] wanted = {6, 3, 2, NONE, NONE};
        for (int weight : WEIGHTS) {
            due("levels(" + weight + ")", x.levels(weight), wanted[weight - 1]);
        }
        LastingBeam y = new LastingBeam();
        LastingBeam z = fullBeam();
        for (int weight : WEIGHTS) {
            due("level already", y.levels(weight), NONE);
            due("level already, and full", z.levels(weight), NONE);
        }
    }

    /** A token on each place in turns is levelled by its own weight on the opposite one alone. */
    private static void levelsAtItsBounds() {
        for (int weight : WEIGHTS) {
            for (int place : PLACES) {
                LastingBeam x = new LastingBeam();
                x.setUp(weight, place);
                due(weight + " on " + place, x.levels(weight), -place);
                x.set(0, 1);
                x.set(1, 40);
                due("empty still", x.levels(weight), -place);
                int other = weight == 5 ? 4 : weight + 1;
                x.setUp(other, -place);
                int turn = (weight - other) * place;
                due("turn", x.count(1), turn);
                due("only full places would do", x.levels(1), fits(-turn, place) ? -turn : NONE);
            }
            LastingBeam y = new LastingBeam();
            y.set(0, 4);
            y.setUp(weight, 6);
            y.setUp(weight, 1);
            due("one beyond 6", y.levels(weight), NONE);
            y.begin();
            y.setUp(weight, -6);
            y.setUp(weight, -1);
            due("one beyond -6", y.levels(weight), NONE);
        }
    }

    private static boolean fits(int wanted, int place) {
        return wanted >= -6 && wanted <= 6 && wanted != 0 && wanted != place && wanted != -place;
    }

    // -- Promise 23

    private static void made() {
        LastingBeam x = new LastingBeam();
        int[] noWhats = {MIN, -256, -2, -1, 4, 5, 256, 65536, MAX};
        int[] noBacks = {MIN, MIN + 1, -65536, -256, -40, -2, -1};
        for (int moves = 0; moves <= 2; moves++) {
            for (int back : noBacks) {
                for (int what = -1; what <= 4; what++) {
                    due("made(" + back + ", " + what + ")", x.made(back, what), BAD_VALUE);
                }
            }
            for (int what : noWhats) {
                for (int back : new int[] {0, 1, 2, 39, 40, 41, MAX}) {
                    due("made(" + back + ", " + what + ")", x.made(back, what), BAD_VALUE);
                }
            }
            for (int what = 0; what <= 3; what++) {
                for (int back : new int[] {moves, moves + 1, 39, 40, 41, 256, 65536, MAX - 1, MAX}) {
                    due("made(" + back + ", " + what + ")", x.made(back, what), NONE);
                }
            }
            x.lay(1 + moves, 1);
            due("the first move", x.made(moves, 1), moves < 2 ? 1 : NONE);
        }
    }

    private static void madeOfForty() {
        LastingBeam x = new LastingBeam();
        x.set(2, 1);
        x.set(1, 40);
        x.setUp(1, 1);
        x.setUp(2, -4);
        int[] places = {1, -4, 2, -5};
        boolean[] inward = {false, false, true, true};
        int[] told = {1, -2, -1, 2};
        for (int moves = 1; moves <= 90; moves++) {
            int i = (moves - 1) % 4;
            x.push(places[i], inward[i]);
            int kept = Math.min(moves, 40);
            for (int back : new int[] {0, 1, kept - 2, kept - 1}) {
                if (back >= 0 && back < kept) {
                    int then = (moves - 1 - back) % 4;
                    due("side " + back, x.made(back, 0), (moves - 1 - back) % 2);
                    due("number " + back, x.made(back, 1), inward[then] ? 6 : 7);
                    due("place " + back, x.made(back, 2), places[then]);
                    due("told " + back, x.made(back, 3), told[then]);
                }
            }
            for (int what = 0; what <= 3; what++) {
                due("beyond " + kept, x.made(kept, what), NONE);
            }
            due("moves so far", x.count(3), moves);
        }
    }

    // -- Promise 24

    private static void count() {
        LastingBeam x = new LastingBeam();
        LastingBeam y = tipped();
        for (int what : new int[] {MIN, MIN + 1, -65536, -256, -17, -2, -1, 17, 18, 256, 272, 65536, MAX - 1, MAX}) {
            due("count(" + what + ")", x.count(what), BAD_VALUE);
            due("over: count(" + what + ")", y.count(what), BAD_VALUE);
        }
        int[] first = {0, 0, 0, 0, 0, 0, 0, 0, 60, 30, 0, 2, 8, 0, 0, 0, 0};
        for (int what = 0; what <= 16; what++) {
            due("count(" + what + ")", x.count(what), first[what]);
        }
    }

    private static void countAtItsBounds() {
        LastingBeam x = fullBeam();
        due("tokens", x.count(6), 48);
        due("weights", x.count(7), 240);
        due("turn", x.count(1), 0);
        due("no moves", x.count(8), 0);
        due("no safe moves", x.count(9), 0);
        for (int sign = -1; sign <= 1; sign += 2) {
            x.begin();
            for (int place = 1; place <= 6; place++) {
                for (int i = 0; i < 4; i++) {
                    x.setUp(5, sign * place);
                }
            }
            due("the greatest turn", x.count(1), sign * 420);
            due("setUp did it", x.count(5), sign * 420);
            due("no move", x.count(10), 0);
        }
        for (int limit = 0; limit <= 40; limit += 8) {
            LastingBeam y = new LastingBeam();
            y.set(1, limit);
            y.setUp(limit / 8, 6);
            y.setUp(limit / 8, 2);
            due("the turn is the limit", y.count(1), limit);
            due("not tipped", y.count(2), 0);
            due("just above it", y.lay(1, 1), limit + 1);
            due("the greatest turn", y.count(10), limit + 1);
            due("tipped", y.count(2), 2);
            due("none is possible", y.count(8), 0);
            due("none is safe", y.count(9), 0);
        }
    }
}
