/** Each promise of the document: ordinary inputs, the edges that it names, and wrong inputs. */
public final class PromiseTest {
    private static final int UNKNOWN = -10001;
    private static final int BAD_VALUE = -10002;
    private static final int FULL = -10003;
    private static final int NOT_POSSIBLE = -10004;
    private static final int NONE = -10005;
    private static final int NO_MOVE = -10010;
    private static final int FAULT = -10100;

    private static final Check CHECK = new Check();

    public static void main(String[] args) {
        newObject();
        lay();
        layOnFullPlaces();
        push();
        pushReasons();
        leftOut();
        play();
        setBag();
        set();
        settingsAtAnyTime();
        setUp();
        begin();
        type();
        clearText();
        perform();
        faults();
        textAfterText();
        stopped();
        undo();
        historyOfActs();
        keepAndRestore();
        restoreOfMoves();
        at();
        bag();
        reason();
        possible();
        look();
        lookTurnsRound();
        lookChangesNothing();
        lookAtOneMove();
        best();
        bestByWorth();
        levels();
        made();
        count();
        safeMoves();
        drawn();
        whoLoses();
        CHECK.end("PromiseTest");
    }

    private static void due(String call, long got, long want) {
        CHECK.due(call, got, want);
    }

    private static void counts(String when, LastingBeam x, int first, int... wanted) {
        for (int i = 0; i < wanted.length; i++) {
            due(when + ": count(" + (first + i) + ")", x.count(first + i), wanted[i]);
        }
    }

    private static void write(LastingBeam x, String text) {
        x.clearText();
        for (int i = 0; i < text.length(); i++) {
            due("type in " + text, x.type(text.charAt(i)), i + 1);
        }
    }

    private static void performs(LastingBeam x, String text, int wanted) {
        write(x, text);
        due("perform of \"" + text + "\"", x.perform(), wanted);
        due("length behind perform of \"" + text + "\"", x.count(16), text.length());
    }

    private static void emptyBag(LastingBeam x, int side) {
        for (int weight = 1; weight <= 5; weight++) {
            x.setBag(side, weight, 0);
        }
    }

    // -- Promise 1

    private static void newObject() {
        LastingBeam x = new LastingBeam();
        counts("new", x, 0, 0, 0, 0, 0, 0, 0, 0, 0, 60, 30, 0, 2, 8, 0, 0, 0, 0);
        for (int side = 0; side <= 1; side++) {
            due("new: bag all", x.bag(side, 0), 10);
            for (int weight = 1; weight <= 5; weight++) {
                due("new: bag", x.bag(side, weight), 2);
            }
        }
        for (int place = -6; place <= 6; place++) {
            due("new: at " + place, x.at(place, 0), place == 0 ? UNKNOWN : 0);
        }
        due("new: undo", x.undo(), NONE);
        due("new: restore", x.restore(), NONE);
        due("new: stopped", x.stopped(0), NONE);
        due("new: made", x.made(0, 0), NONE);
        due("UNKNOWN", TippingBeam.UNKNOWN, UNKNOWN);
        due("BAD_VALUE", TippingBeam.BAD_VALUE, BAD_VALUE);
        due("FULL", TippingBeam.FULL, FULL);
        due("NOT_POSSIBLE", TippingBeam.NOT_POSSIBLE, NOT_POSSIBLE);
        due("NONE", TippingBeam.NONE, NONE);
        due("NO_MOVE", TippingBeam.NO_MOVE, NO_MOVE);
    }

    // -- Promise 2

    private static void lay() {
        LastingBeam x = new LastingBeam();
        due("lay(2, -3)", x.lay(2, -3), -6);
        due("lay(5, 1)", x.lay(5, 1), -1);
        due("lay(1, 6)", x.lay(1, 6), 5);
        due("lay(1, -6)", x.lay(1, -6), -1);
        counts("laid", x, 0, 0, -1, 0, 4, -1, 0, 4, 9);
        due("bag of 0", x.bag(0, 2), 1);
        due("bag of 0, all", x.bag(0, 0), 8);
        due("bag of 1", x.bag(1, 5), 1);
        due("bag of 1, other weight", x.bag(1, 2), 2);
        due("history", x.count(15), 4);

        int[][] wrong = {{0, 1}, {6, 1}, {1, 0}, {1, 7}, {1, -7}, {0, 0}, {-1, 1},
            {Integer.MIN_VALUE, 1}, {Integer.MAX_VALUE, 1}, {1, Integer.MIN_VALUE}, {1, Integer.MAX_VALUE}};
        for (int[] w : wrong) {
            due("lay(" + w[0] + ", " + w[1] + ")", x.lay(w[0], w[1]), UNKNOWN);
        }
        due("nothing changed", x.count(3), 4);

        LastingBeam y = new LastingBeam();
        y.setBag(0, 3, 0);
        due("none in the bag", y.lay(3, 1), NO_MOVE - 2);
        due("the side 0 still", y.count(0), 0);
        due("history of one", y.count(15), 1);
        due("lay to the limit", y.lay(4, 2), 8);
        due("goes on", y.count(2), 0);
        due("beyond it", y.lay(1, 1), 9);
        due("over", y.count(2), 1);
        due("over: unknown first", y.lay(1, 0), UNKNOWN);
        due("over: reason 1 first", y.lay(3, 1), NO_MOVE - 1);
        due("a move changes the side in the end too", y.count(0), 0);
    }

    private static void layOnFullPlaces() {
        LastingBeam x = new LastingBeam();
        x.lay(1, 1);
        x.lay(2, 1);
        due("full", x.lay(1, 1), NO_MOVE - 4);
        due("uppermost", x.at(1, 2), 2);
        due("three can lie", x.set(0, 3), 2);
        due("third", x.lay(1, 1), 4);
        due("full with three", x.lay(1, 1), NO_MOVE - 4);
        due("bag ahead of place", x.setBag(1, 4, 0), 2);
        due("none in the bag, full", x.lay(4, 1), NO_MOVE - 2);
        due("four can lie", x.set(0, 4), 3);
        due("fourth", x.lay(1, 1), 5);
        due("full with four", x.lay(2, 1), NO_MOVE - 4);
        due("one can lie", x.set(0, 1), 4);
        due("it keeps four", x.at(1, 0), 4);
        due("full with one", x.reason(2, 1), 4);
        due("an empty one", x.reason(2, 2), 0);
    }

    // -- Promise 3

    private static void push() {
        LastingBeam x = new LastingBeam();
        x.set(2, 1);
        x.lay(3, 1);
        x.lay(2, 1);
        due("the uppermost one, over the middle", x.push(1, true), 1);
        due("came to -1", x.at(-1, 2), 2);
        due("left 1", x.at(1, 2), 3);
        due("what it told", x.made(0, 3), -4);
        due("its place", x.made(0, 2), 1);
        due("its number", x.made(0, 1), 6);
        due("its side", x.made(0, 0), 0);
        due("outward", x.push(1, false), 4);
        due("came to 2", x.at(2, 2), 3);
        due("outward on the other arm", x.push(-1, false), 2);
        due("its number", x.made(0, 1), 7);
        due("came to -2", x.at(-2, 2), 2);
        due("inward", x.push(2, true), -1);
        due("inward on the other arm", x.push(-2, true), 1);
        due("from 1 to -1, above", x.push(1, true), -5);
        due("both at -1", x.at(-1, 1), 5);
        due("the uppermost one is that which was moved", x.at(-1, 2), 3);
        x.lay(1, 4);
        due("from -1 to 1", x.push(-1, true), 5);
        due("bags stay", x.bag(0, 0) + x.bag(1, 0), 17);
        due("so many moves", x.count(3), 10);
        due("told together", x.count(4), 5);
        for (int place : new int[] {0, 7, -7, Integer.MIN_VALUE, Integer.MAX_VALUE}) {
            due("push from no place", x.push(place, true), UNKNOWN);
            due("push from no place", x.push(place, false), UNKNOWN);
        }
    }

    private static void pushReasons() {
        LastingBeam x = new LastingBeam();
        due("not by the setting, and nothing there", x.push(1, true), NO_MOVE - 2);
        x.set(2, 1);
        due("nothing there", x.push(1, true), NO_MOVE - 3);
        due("nothing there, and none beyond", x.push(6, false), NO_MOVE - 3);
        x.lay(1, 6);
        due("none beyond 6", x.push(6, false), NO_MOVE - 4);
        x.lay(1, -6);
        due("none beyond -6", x.push(-6, false), NO_MOVE - 4);
        due("inward from 6", x.push(6, true), -1);
        due("moved there just before", x.push(5, true), NO_MOVE - 3);
        due("moved there just before, outward", x.push(5, false), NO_MOVE - 3);
        x.setUp(1, 5);
        due("setUp is no move", x.push(5, true), NO_MOVE - 3);
        x.undo();
        due("inward from -6", x.push(-6, true), 0);
        due("-5 now", x.push(-5, false), NO_MOVE - 3);
        due("5 is free again", x.push(5, false), 1);
        due("6 now", x.push(6, true), NO_MOVE - 3);
        x.lay(2, -2);
        due("laying is a move, too", x.push(6, true), -4);
        x.undo();
        due("undo brings the latest move back", x.push(6, true), -4);
        x.undo();
        x.undo();
        due("undo of the laying", x.push(6, true), NO_MOVE - 3);
        due("begin", x.begin(), 2);
        x.setUp(1, 6);
        due("no move was made behind begin", x.push(6, true), 5);

        LastingBeam y = new LastingBeam();
        y.set(2, 1);
        y.lay(1, 1);
        y.lay(1, 2);
        y.lay(1, 2);
        due("full", y.push(1, false), NO_MOVE - 4);
        y.set(1, 3);
        due("over first", y.push(1, false), NO_MOVE - 1);
        due("unknown ahead of that", y.push(0, false), UNKNOWN);
        y.set(1, 9);
        y.set(0, 4);
        due("not full any more", y.push(1, false), 6);
        y.set(2, 0);
        due("setting 2 off", y.push(2, true), NO_MOVE - 2);
    }

    private static void leftOut() {
        LastingBeam x = new LastingBeam();
        emptyBag(x, 1);
        due("setBag changes no side", x.count(0), 0);
        x.lay(1, 1);
        due("1 is left out", x.count(0), 0);
        x.lay(1, -1);
        due("1 is left out again", x.count(0), 0);
        x.set(2, 1);
        due("a setting changes no side", x.count(0), 0);
        x.lay(2, 1);
        due("not left out if tokens can be moved", x.count(0), 1);
        due("it can move", x.push(-1, false), 1);
        due("back to 0", x.count(0), 0);

        LastingBeam y = new LastingBeam();
        emptyBag(y, 0);
        emptyBag(y, 1);
        y.setBag(0, 1, 1);
        y.lay(1, 1);
        due("the latest token: the other one is to move", y.count(0), 1);
        due("drawn", y.count(2), 3);

        LastingBeam z = new LastingBeam();
        emptyBag(z, 0);
        due("the side 0 begins without any", z.count(0), 0);
        due("no move", z.count(8), 0);
        due("it goes on", z.count(2), 0);
        due("none in the bag", z.lay(1, 1), NO_MOVE - 2);
    }

    // -- Promise 4

    private static void play() {
        LastingBeam x = new LastingBeam();
        due("play(0)", x.play(0), BAD_VALUE);
        due("play(4)", x.play(4), BAD_VALUE);
        due("play(-1)", x.play(-1), BAD_VALUE);
        due("play(min)", x.play(Integer.MIN_VALUE), BAD_VALUE);
        due("history", x.count(15), 0);
        due("best", x.best(1), 149);
        due("play", x.play(1), -1);
        due("it was the best", x.made(0, 1) * 100 + x.made(0, 2) + 50, 149);
        due("history", x.count(15), 1);
        due("next", x.best(2), 151);
        due("play", x.play(2), 0);
        due("side", x.count(0), 0);
        due("undo", x.undo(), 1);
        due("undone", x.count(1), -1);

        x.begin();
        x.setUp(1, 6);
        due("the first move of all is the best", x.best(1), 144);
        due("play", x.play(1), 0);
        due("it lies there", x.at(-6, 2), 1);

        LastingBeam y = new LastingBeam();
        emptyBag(y, 0);
        due("none", y.play(1), NOT_POSSIBLE);
        due("bad value first", y.play(4), BAD_VALUE);
        due("none is recorded", y.count(15), 4);
        LastingBeam z = new LastingBeam();
        z.setUp(5, 5);
        due("over", z.play(3), NOT_POSSIBLE);
        due("none is recorded", z.count(15), 1);
    }

    // -- Promise 5

    private static void setBag() {
        LastingBeam x = new LastingBeam();
        due("setBag", x.setBag(0, 5, 6), 2);
        due("bag", x.bag(0, 5), 6);
        due("bag all", x.bag(0, 0), 14);
        due("the other bag", x.bag(1, 5), 2);
        due("again", x.setBag(0, 5, 6), NONE);
        due("history", x.count(15), 1);
        due("to none", x.setBag(1, 1, 0), 2);
        due("bag", x.bag(1, 1), 0);
        due("bag all", x.bag(1, 0), 8);
        due("back", x.setBag(1, 1, 3), 0);
        due("history", x.count(15), 3);
        due("side -1", x.setBag(-1, 1, 1), UNKNOWN);
        due("side 2", x.setBag(2, 1, 1), UNKNOWN);
        due("weight 0", x.setBag(0, 0, 1), UNKNOWN);
        due("weight 6", x.setBag(0, 6, 1), UNKNOWN);
        due("unknown first", x.setBag(0, 6, 7), UNKNOWN);
        due("many 7", x.setBag(0, 1, 7), BAD_VALUE);
        due("many -1", x.setBag(0, 1, -1), BAD_VALUE);
        due("history", x.count(15), 3);
        due("undo", x.undo(), 2);
        due("undone", x.bag(1, 1), 0);
        due("undone, all", x.bag(1, 0), 8);
        x.setUp(5, 6);
        due("over", x.count(2), 1);
        due("at any time", x.setBag(1, 1, 1), 0);
    }

    // -- Promise 6

    private static void set() {
        LastingBeam x = new LastingBeam();
        int[] first = {2, 8, 0, 0};
        int[] least = {1, 0, 0, 0};
        int[] most = {4, 40, 1, 1};
        for (int which = 0; which < 4; which++) {
            String call = "set(" + which + ", ..)";
            due(call + " as it is", x.set(which, first[which]), NONE);
            due(call + " too small", x.set(which, least[which] - 1), BAD_VALUE);
            due(call + " too great", x.set(which, most[which] + 1), BAD_VALUE);
            due(call + " far too small", x.set(which, Integer.MIN_VALUE), BAD_VALUE);
            due(call + " far too great", x.set(which, Integer.MAX_VALUE), BAD_VALUE);
            due(call + " greatest", x.set(which, most[which]), first[which]);
            due("count(" + (11 + which) + ")", x.count(11 + which), most[which]);
            due(call + " greatest again", x.set(which, most[which]), NONE);
            due(call + " smallest", x.set(which, least[which]), most[which]);
            due("count(" + (11 + which) + ")", x.count(11 + which), least[which]);
        }
        due("which -1", x.set(-1, 1), UNKNOWN);
        due("which 4", x.set(4, 1), UNKNOWN);
        due("unknown first", x.set(4, 99), UNKNOWN);
        due("which min", x.set(Integer.MIN_VALUE, 1), UNKNOWN);
    }

    private static void settingsAtAnyTime() {
        LastingBeam x = new LastingBeam();
        x.lay(1, 5);
        x.lay(1, -2);
        due("another limit", x.set(1, 2), 8);
        due("1 made the last move and loses", x.count(2), 1);
        due("none is possible", x.count(8), 0);
        due("none is safe", x.count(9), 0);
        x.set(3, 1);
        due("1 made the last move and wins", x.count(2), 2);
        due("look", x.look(0), -1);
        x.set(1, 3);
        due("level with the limit", x.count(2), 0);
        due("moves again", x.count(8) > 0 ? 1 : 0, 1);
        due("history of four", x.count(15), 4);

        LastingBeam y = new LastingBeam();
        due("setUp", y.setUp(5, 2), 10);
        due("no move: 1 loses", y.count(2), 1);
        y.set(3, 1);
        due("no move: 1 wins", y.count(2), 2);
        due("look for 0", y.look(3), -1);

        LastingBeam z = new LastingBeam();
        z.lay(1, 1);
        z.setUp(5, 2);
        due("0 made the last move", z.count(2), 2);
        z.begin();
        z.setUp(5, -2);
        due("behind begin: 1 loses", z.count(2), 1);
    }

    // -- Promise 7

    private static void setUp() {
        LastingBeam x = new LastingBeam();
        due("setUp(3, 2)", x.setUp(3, 2), 6);
        due("no side moves", x.count(0), 0);
        due("no move", x.count(3), 0);
        due("bags stay", x.bag(0, 0) + x.bag(1, 0), 20);
        due("setUp(5, -1)", x.setUp(5, -1), 1);
        counts("set up", x, 4, 0, 1, 2, 8);
        due("no greatest turn", x.count(10), 0);
        due("uppermost", x.setUp(1, 2), 3);
        due("above", x.at(2, 2), 1);
        due("full", x.setUp(1, 2), FULL);
        due("history", x.count(15), 3);
        due("weight 0", x.setUp(0, 2), UNKNOWN);
        due("weight 6", x.setUp(6, 2), UNKNOWN);
        due("place 0", x.setUp(1, 0), UNKNOWN);
        due("place 7", x.setUp(1, 7), UNKNOWN);
        due("place -7", x.setUp(1, -7), UNKNOWN);
        x.set(0, 4);
        due("more room", x.setUp(1, 2), 5);
        due("fourth", x.setUp(1, 2), 7);
        due("full with four", x.setUp(1, 2), FULL);
        x.lay(1, -4);
        counts("laid", x, 3, 1, -4, 7);
        due("greatest turn behind a move", x.count(10), 3);
        due("over", x.setUp(5, 6), 33);
        due("in the end too", x.setUp(5, -6), 3);
        due("goes on again", x.count(2), 0);
        due("greatest turn", x.count(10), 3);
    }

    // -- Promise 8

    private static void begin() {
        LastingBeam x = new LastingBeam();
        due("begin on the empty beam", x.begin(), 0);
        due("is an act", x.count(15), 1);
        x.set(1, 30);
        x.setBag(1, 1, 5);
        x.set(2, 1);
        x.lay(5, 3);
        x.setUp(2, 2);
        x.lay(5, 2);
        x.push(3, false);
        x.keep();
        x.set(0, 1);
        for (int place = -6; place <= 6; place++) {
            x.setUp(1, place);
        }
        due("begin on a beam with tokens on each place", x.begin(), 13);
        for (int place = -6; place <= 6; place++) {
            due("nothing on " + place, x.at(place, 0), place == 0 ? UNKNOWN : 0);
        }
        x.set(0, 2);
        x.restore();
        due("begin", x.begin(), 3);
        counts("begun", x, 0, 0, 0, 0, 0, 0, 0, 0, 0);
        due("greatest turn", x.count(10), 0);
        for (int place = -6; place <= 6; place++) {
            due("nothing on " + place, x.at(place, 0), place == 0 ? UNKNOWN : 0);
        }
        due("limit stays", x.count(12), 30);
        due("moving stays", x.count(13), 1);
        due("bag 0 stays", x.bag(0, 5), 1);
        due("bag 1 stays", x.bag(1, 0), 12);
        due("no move is told", x.made(0, 0), NONE);
        due("the place is empty", x.at(4, 0), 0);
        due("undo", x.undo(), 3);
        counts("undone", x, 0, 1, 34, 2, 3, 30, 4, 3, 12);
        due("greatest turn", x.count(10), 34);
    }

    // -- Promises 9 and 10

    private static void type() {
        LastingBeam x = new LastingBeam();
        for (int i = 1; i <= 60; i++) {
            due("type", x.type((char) (i * 1000)), i);
        }
        due("type the 61st", x.type('1'), FULL);
        due("length", x.count(16), 60);
        due("no act", x.count(15), 0);
        due("cleared", x.clearText(), 60);
        due("type again", x.type((char) 0), 1);
        due("no character of a move", x.perform(), FAULT);
    }

    private static void clearText() {
        LastingBeam x = new LastingBeam();
        due("empty", x.clearText(), 0);
        write(x, "1@1");
        due("clearText", x.clearText(), 3);
        due("length", x.count(16), 0);
        due("again", x.clearText(), 0);
        due("no act", x.count(15), 0);
        write(x, "1@2");
        x.setBag(0, 1, 1);
        due("undo", x.undo(), 0);
        due("undo leaves the text", x.count(16), 3);
        x.keep();
        x.clearText();
        x.restore();
        due("restore leaves the text", x.count(16), 0);
    }

    // -- Promise 11

    private static void perform() {
        LastingBeam x = new LastingBeam();
        performs(x, "1@6", 1);
        due("turn", x.count(1), 6);
        performs(x, "2@-3;5@1", 2);
        due("turn", x.count(1), 5);
        due("at -3", x.at(-3, 2), 2);
        due("bag of 1", x.bag(1, 2), 1);
        due("bag of 0", x.bag(0, 5), 1);
        due("one act each", x.count(15), 2);
        due("again, as the text stays", x.perform(), 2);
        due("turn", x.count(1), 4);
        due("undo takes both back", x.undo(), 2);
        due("turn", x.count(1), 5);
        due("moves", x.count(3), 3);

        performs(x, "1@-1;1i", NOT_POSSIBLE);
        due("nothing changed", x.count(3), 3);
        due("nothing changed", x.count(1), 5);
        due("nothing recorded", x.count(15), 2);
        x.set(2, 1);
        performs(x, "1@-1;1i", 2);
        due("turn", x.count(1), -6);
        performs(x, "6i;-3o", 2);
        due("turn", x.count(1), -9);
        due("over", x.count(2), 2);
        performs(x, "1@1", NOT_POSSIBLE);
        // A fault comes ahead of a stop.
        performs(x, "1@1;", FAULT - 4);

        LastingBeam y = new LastingBeam();
        y.set(1, 40);
        y.set(0, 4);
        y.setBag(0, 1, 6);
        y.setBag(1, 1, 6);
        performs(y, "1@1;1@2;1@3;1@4;1@5;1@6;1@1;1@2;1@3;1@4;1@5;1@-6", 12);
        due("turn", y.count(1), 30);
        y.begin();
        y.set(2, 1);
        y.setUp(1, 1);
        performs(y, "1o;1o;1o", NOT_POSSIBLE);
        y.begin();
        y.setUp(1, 1);
        y.setUp(2, -6);
        y.setUp(2, 6);
        // The most moves that a text has room for: to and fro with two tokens.
        StringBuilder twenty = new StringBuilder();
        for (int i = 0; i < 5; i++) {
            twenty.append(i == 0 ? "" : ";").append("1o;6i;2i;5o");
        }
        performs(y, twenty.toString(), 20);
        due("twenty moves", y.count(3), 20);
        due("nothing told", y.count(4), 0);
        due("the length", y.count(16), 59);
    }

    private static void faults() {
        LastingBeam x = new LastingBeam();
        x.set(2, 1);
        String[] texts = {"", "-", "1", "6", "1@", "1@-", "1@1;", "-6", "1i;", "1i;-", "1@-3;5",
            "0", "7", "8@1", "@", "i", "o", ";", " ", "--1i", "-0i", "-7i", "-@", "-i",
            "6@1", "1;", "11", "1-", "1I", "1O", "1 @1", "-2@1", "-61i",
            "1@0", "1@7", "1@@", "1@;", "1@i", "1@--1", "1@-0", "1@-7", "1@-;",
            "1@1i", "1@11", "1@1 ", "1@1@", "1@-1-", "1ii", "1io", "1i1", "1i ", "-6i,",
            "1@1;;", "1@1;@", "1@1;6@2", "1@1;-3@2", "1@1;-3i;0", "1@\u0131", "\uff11@1"};
        int[] wanted = {0, 1, 1, 1, 2, 3, 4, 2, 3, 4, 6,
            0, 0, 0, 0, 0, 0, 0, 0, 1, 1, 1, 1, 1,
            1, 1, 1, 1, 1, 1, 1, 2, 2,
            2, 2, 2, 2, 2, 3, 3, 3, 3,
            3, 3, 3, 3, 4, 2, 2, 2, 2, 3,
            4, 4, 5, 6, 8, 2, 0};
        due("as many", texts.length, wanted.length);
        for (int i = 0; i < texts.length; i++) {
            performs(x, texts[i], FAULT - wanted[i]);
        }
        due("no stop by a fault", x.stopped(0), NONE);
        due("no act", x.count(15), 1);
        due("no move", x.count(3), 0);
        StringBuilder tooLong = new StringBuilder();
        for (int i = 0; i < 15; i++) {
            tooLong.append("1@1;");
        }
        performs(x, tooLong.toString(), FAULT - 60);
    }

    /** What was read of one text does not colour the next one. */
    private static void textAfterText() {
        LastingBeam x = new LastingBeam();
        performs(x, "-1", FAULT - 2);
        performs(x, "1@1", 1);
        due("laid onto 1", x.at(1, 0), 1);
        performs(x, "2@-3", 1);
        performs(x, "2@3;1@-1;3@1", 3);
        due("laid onto 3", x.at(3, 0), 1);
        due("laid onto -1", x.at(-1, 0), 1);
        due("laid onto 1", x.at(1, 2), 3);
    }

    // -- Promise 12

    private static void stopped() {
        LastingBeam x = new LastingBeam();
        due("none yet", x.stopped(0), NONE);
        due("none yet, for the reason", x.stopped(1), NONE);
        due("bad value first", x.stopped(2), BAD_VALUE);
        due("bad value first", x.stopped(-1), BAD_VALUE);
        performs(x, "1@1;1i", NOT_POSSIBLE);
        due("number", x.stopped(0), 1);
        due("reason", x.stopped(1), 2);
        x.begin();
        performs(x, "1@1;1@1;2@-1;1@1;1@1", NOT_POSSIBLE);
        due("number", x.stopped(0), 3);
        due("reason", x.stopped(1), 4);
        performs(x, "5@1", 1);
        due("a later success leaves it", x.stopped(0), 3);
        performs(x, "5@", FAULT - 2);
        due("a fault leaves it", x.stopped(1), 4);
        x.undo();
        due("undo leaves it", x.stopped(0), 3);
        performs(x, "3@3;1@1", NOT_POSSIBLE);
        due("number", x.stopped(0), 1);
        due("reason: over", x.stopped(1), 1);
        x.set(2, 1);
        performs(x, "-6o", NOT_POSSIBLE);
        due("number", x.stopped(0), 0);
        due("reason: nothing there", x.stopped(1), 3);
        due("bad value", x.stopped(2), BAD_VALUE);
    }

    // -- Promise 13

    private static void undo() {
        LastingBeam x = new LastingBeam();
        due("nothing", x.undo(), NONE);
        x.lay(1, 1);
        x.lay(1, 2);
        x.lay(1, 3);
        due("three", x.count(15), 3);
        due("undo", x.undo(), 2);
        counts("undone", x, 0, 0, 3, 0, 2, 3, 0, 2, 2);
        due("bag", x.bag(0, 1), 1);
        due("the earlier move is told", x.made(1, 2), 1);
        due("the later move is told", x.made(0, 2), 2);
        x.lay(1, -3);
        x.lay(1, -4);
        x.lay(2, -1);
        due("undo of the fifth move", x.undo(), 3);
        for (int back = 0; back < 4; back++) {
            due("each move is told", x.made(back, 2), new int[] {-4, -3, 2, 1}[back]);
        }
        x.lay(2, -1);
        due("four at most", x.count(15), 4);
        for (int left = 3; left >= 0; left--) {
            due("undo", x.undo(), left);
        }
        due("no more", x.undo(), NONE);
        due("the oldest one was dropped", x.count(1), 1);
        due("one token", x.count(6), 1);
        due("no redo", x.count(15), 0);
    }

    private static void historyOfActs() {
        LastingBeam x = new LastingBeam();
        x.keep();
        due("keep", x.count(15), 0);
        x.set(2, 1);
        due("set", x.count(15), 1);
        x.undo();
        x.setBag(0, 1, 1);
        due("setBag", x.count(15), 1);
        x.undo();
        x.setUp(1, 1);
        due("setUp", x.count(15), 1);
        x.undo();
        x.begin();
        due("begin", x.count(15), 1);
        x.undo();
        x.lay(1, 1);
        due("lay", x.count(15), 1);
        x.undo();
        x.play(1);
        due("play", x.count(15), 1);
        x.undo();
        x.restore();
        due("restore", x.count(15), 1);
        x.undo();
        performs(x, "1@1;1@2", 2);
        due("perform", x.count(15), 1);
        x.set(2, 1);
        x.push(1, true);
        due("push", x.count(15), 3);
        x.look(2);
        x.best(2);
        x.levels(1);
        due("what is told", x.count(15), 3);
        x.undo();
        due("the settings are there still", x.count(13), 1);
        x.undo();
        due("the settings come back", x.count(13), 0);
        x.undo();
        counts("all undone", x, 0, 0, 0, 0, 0, 0, 0, 0, 0, 60, 30, 0, 2, 8, 0, 0, 0, 7);
    }

    // -- Promises 14 and 15

    private static void keepAndRestore() {
        LastingBeam x = new LastingBeam();
        due("no snapshot", x.restore(), NONE);
        due("keep the empty beam", x.keep(), 0);
        due("no act", x.count(15), 0);
        x.lay(1, 1);
        x.lay(2, 2);
        x.set(3, 1);
        due("keep", x.keep(), 2);
        x.set(2, 1);
        x.push(2, false);
        x.setUp(1, 4);
        x.begin();
        x.setBag(0, 5, 0);
        due("restore", x.restore(), 2);
        counts("restored", x, 0, 0, 5, 0, 2, 5, 0, 2, 3);
        due("greatest", x.count(10), 5);
        counts("settings", x, 11, 2, 8, 0, 1);
        due("bag", x.bag(0, 5), 2);
        due("made", x.made(0, 1), 2);
        due("it is an act", x.count(15), 4);
        due("undo", x.undo(), 3);
        due("undone", x.bag(0, 5), 0);
        due("undone", x.count(6), 0);
        due("restore again", x.restore(), 2);
        due("undo", x.undo(), 3);
        x.undo();
        due("the snapshot stays", x.restore(), 2);
        x.lay(1, 1);
        due("a change behind restore leaves it", x.restore(), 2);
        due("keep in place of it", x.keep(), 2);
        x.lay(1, -1);
        due("keep in place of it", x.keep(), 3);
        x.begin();
        due("the later one", x.restore(), 3);
    }

    /** Moves that are made behind the snapshot take the room of those in it. */
    private static void restoreOfMoves() {
        LastingBeam x = new LastingBeam();
        x.set(1, 9);
        x.set(2, 1);
        x.setUp(1, 1);
        x.setUp(2, -4);
        String toAndFro = "1o;-4o;2i;-5i";
        for (int i = 0; i < 5; i++) {
            performs(x, toAndFro + ";" + toAndFro, 8);
        }
        due("moves", x.count(3), 40);
        x.keep();
        x.begin();
        x.setUp(5, 3);
        x.set(1, 40);
        x.setUp(5, -3);
        for (int i = 0; i < 10; i++) {
            x.push(3, true);
            x.push(-3, true);
            x.push(2, false);
            x.push(-2, false);
        }
        due("other moves", x.count(3), 40);
        due("restore", x.restore(), 2);
        int[] places = {-5, 2, -4, 1};
        int[] told = {2, -1, -2, 1};
        for (int back = 0; back < 40; back++) {
            due("side of " + back, x.made(back, 0), back % 2 == 0 ? 1 : 0);
            due("number of " + back, x.made(back, 1), back % 4 < 2 ? 6 : 7);
            due("place of " + back, x.made(back, 2), places[back % 4]);
            due("told by " + back, x.made(back, 3), told[back % 4]);
        }
        due("no more", x.made(40, 0), NONE);
    }

    // -- Promise 16

    private static void at() {
        LastingBeam x = new LastingBeam();
        x.setUp(3, -4);
        x.setUp(5, -4);
        x.setUp(2, 6);
        int[][] wanted = {{-4, 2, 8, 5, -32}, {6, 1, 2, 2, 12}, {1, 0, 0, NONE, 0}, {-6, 0, 0, NONE, 0}};
        for (int[] row : wanted) {
            for (int what = 0; what < 4; what++) {
                due("at(" + row[0] + ", " + what + ")", x.at(row[0], what), row[1 + what]);
            }
        }
        for (int place : new int[] {0, 7, -7, Integer.MAX_VALUE, Integer.MIN_VALUE}) {
            due("at no place", x.at(place, 0), UNKNOWN);
            due("unknown first", x.at(place, 4), UNKNOWN);
        }
        due("at(1, 4)", x.at(1, 4), BAD_VALUE);
        due("at(1, -1)", x.at(1, -1), BAD_VALUE);
        due("at(-4, min)", x.at(-4, Integer.MIN_VALUE), BAD_VALUE);
    }

    // -- Promise 17

    private static void bag() {
        LastingBeam x = new LastingBeam();
        x.setBag(1, 3, 6);
        due("bag(1, 3)", x.bag(1, 3), 6);
        due("bag(1, 0)", x.bag(1, 0), 14);
        due("bag(0, 3)", x.bag(0, 3), 2);
        x.lay(3, 1);
        due("one less", x.bag(0, 3), 1);
        due("one less of all", x.bag(0, 0), 9);
        due("not of the other", x.bag(1, 3), 6);
        x.begin();
        due("begin leaves it", x.bag(0, 3), 1);
        due("side -1", x.bag(-1, 0), UNKNOWN);
        due("side 2", x.bag(2, 0), UNKNOWN);
        due("weight -1", x.bag(0, -1), UNKNOWN);
        due("weight 6", x.bag(0, 6), UNKNOWN);
        due("weight max", x.bag(1, Integer.MAX_VALUE), UNKNOWN);
    }

    // -- Promise 18

    private static void reason() {
        LastingBeam x = new LastingBeam();
        due("laying", x.reason(1, 1), 0);
        due("moving", x.reason(6, 1), 2);
        due("moving", x.reason(7, 1), 2);
        x.lay(1, 1);
        x.set(2, 1);
        due("inward", x.reason(6, 1), 0);
        due("outward", x.reason(7, 1), 0);
        due("nothing there", x.reason(6, 2), 3);
        due("nothing there", x.reason(7, 6), 3);
        x.setBag(1, 5, 0);
        due("none in the bag of the side that is to move", x.reason(5, 1), 2);
        x.set(0, 1);
        due("full", x.reason(1, 1), 4);
        due("none in the bag comes first", x.reason(5, 1), 2);
        x.setUp(1, -1);
        due("full inward", x.reason(6, 1), 4);
        due("full inward", x.reason(6, -1), 4);
        due("free outward", x.reason(7, -1), 0);
        x.setUp(1, 6);
        due("none beyond", x.reason(7, 6), 4);
        x.setUp(1, -6);
        due("none beyond", x.reason(7, -6), 4);
        x.set(1, 0);
        x.setUp(1, 3);
        due("over", x.reason(5, 1), 1);
        due("over", x.reason(7, 6), 1);
        due("reason is no act", x.reason(1, 2), 1);
        due("number 0", x.reason(0, 1), BAD_VALUE);
        due("number 8", x.reason(8, 1), BAD_VALUE);
        due("number -1", x.reason(-1, 1), BAD_VALUE);
        due("bad value first", x.reason(8, 0), BAD_VALUE);
        due("place 0", x.reason(1, 0), UNKNOWN);
        due("place 7", x.reason(7, 7), UNKNOWN);
        due("place -7", x.reason(6, -7), UNKNOWN);
    }

    // -- Promise 19

    private static void possible() {
        LastingBeam x = new LastingBeam();
        int rank = 0;
        for (int weight = 1; weight <= 5; weight++) {
            for (int place = -6; place <= 6; place++) {
                if (place != 0) {
                    due("possible(" + rank + ")", x.possible(rank), 100 * weight + place + 50);
                    rank++;
                }
            }
        }
        due("no more", x.possible(60), NONE);
        due("far too many", x.possible(Integer.MAX_VALUE), NONE);
        due("negative", x.possible(-1), BAD_VALUE);
        due("negative", x.possible(Integer.MIN_VALUE), BAD_VALUE);

        emptyBag(x, 0);
        x.setBag(0, 4, 1);
        x.set(2, 1);
        x.set(0, 1);
        x.set(1, 10);
        x.setUp(1, -2);
        x.setUp(1, 1);
        x.setUp(1, 6);
        x.setUp(1, 5);
        int[] wanted = {444, 445, 446, 447, 449, 452, 453, 454, 648, 748, 651, 751, 655};
        for (int i = 0; i < wanted.length; i++) {
            due("possible(" + i + ")", x.possible(i), wanted[i]);
        }
        due("no more", x.possible(wanted.length), NONE);
        due("count(8)", x.count(8), wanted.length);
        x.set(1, 9);
        due("over", x.possible(0), NONE);
        due("over: negative", x.possible(-1), BAD_VALUE);
    }

    // -- Promise 20

    private static void look() {
        LastingBeam x = new LastingBeam();
        for (int depth = 0; depth <= 3; depth++) {
            due("look(" + depth + ")", x.look(depth), 0);
        }
        due("look(-1)", x.look(-1), BAD_VALUE);
        due("look(4)", x.look(4), BAD_VALUE);
        due("look(max)", x.look(Integer.MAX_VALUE), BAD_VALUE);

        x.set(3, 1);
        due("who tips wins, nothing is seen", x.look(0), 0);
        due("who tips wins", x.look(1), 1);
        due("who tips wins", x.look(3), 1);
        x.set(1, 0);
        x.lay(1, 1);
        due("0 has won, 1 is to move", x.look(0), -1);
        due("over with each depth", x.look(3), -1);

        LastingBeam y = new LastingBeam();
        y.set(1, 0);
        due("each move tips", y.look(0), 0);
        due("each move tips", y.look(1), -1);
        due("each move tips", y.look(2), -1);
        y.set(1, 8);
        emptyBag(y, 0);
        emptyBag(y, 1);
        due("drawn", y.look(3), 0);
        y.setBag(1, 1, 1);
        due("no move is possible", y.look(3), 0);
    }

    /** Bags with few tokens, of which the end can be told by hand. */
    private static void lookTurnsRound() {
        LastingBeam x = new LastingBeam();
        emptyBag(x, 0);
        emptyBag(x, 1);
        x.setBag(0, 1, 1);
        x.setBag(1, 5, 1);
        x.set(1, 2);
        // 0 lays 1 within the limit; 1 then tips the beam with its 5, wherever it lays it,
        // but for 5 times 1 against a turn of 3 or more, which the limit rules out.
        due("0 is not lost", x.look(1), 0);
        due("1 has to tip", x.look(2), 1);
        due("1 has to tip", x.look(3), 1);
        x.set(3, 1);
        due("with 1 tipping and winning", x.look(2), 1);
        due("0 tips first", x.best(2), 147);

        LastingBeam y = new LastingBeam();
        emptyBag(y, 0);
        emptyBag(y, 1);
        y.setBag(0, 1, 2);
        y.setBag(0, 5, 1);
        y.set(1, 1);
        // The side 1 is left out: 0 moves again and again, and its own 5 tips the beam at last.
        due("the same side moves again", y.look(1), 0);
        due("the same side moves again", y.look(3), -1);
        y.set(3, 1);
        y.set(1, 8);
        due("0 tips by 5 at once", y.look(1), 1);
        y.setBag(0, 5, 0);
        due("1 and 1 do not tip by one", y.look(1), 0);
        due("1 and 1 tip together", y.look(2), 1);
    }

    private static void lookChangesNothing() {
        LastingBeam x = new LastingBeam();
        x.set(2, 1);
        x.lay(2, 3);
        x.lay(1, -6);
        x.push(3, false);
        String before = all(x);
        for (int depth = 0; depth <= 3; depth++) {
            x.look(depth);
            due("look(" + depth + ") changes nothing", all(x).equals(before) ? 1 : 0, 1);
            x.best(depth);
            due("best(" + depth + ") changes nothing", all(x).equals(before) ? 1 : 0, 1);
        }
        due("4 is that to which a token was moved", x.push(4, true), NO_MOVE - 3);
        x.set(1, 1);
        due("0 made the last move", x.count(2), 2);
        x.set(1, 8);
        x.look(2);
        x.set(1, 1);
        due("0 made the last move, behind a look ahead, too", x.count(2), 2);
        x.begin();
        x.set(1, 8);
        x.lay(2, 1);
        x.lay(2, 2);
        x.look(2);
        x.set(1, 1);
        due("1 made the last move, behind a look ahead, too", x.count(2), 1);
    }

    private static void lookAtOneMove() {
        LastingBeam x = new LastingBeam();
        x.set(0, 1);
        x.set(1, 40);
        for (int place = -5; place <= 6; place++) {
            x.setUp(place == -5 || place == -1 ? 2 : 1, place);
        }
        emptyBag(x, 0);
        x.setBag(0, 1, 1);
        x.set(1, 5);
        x.set(3, 1);
        due("turn", x.count(1), 0);
        due("one move", x.count(8), 1);
        due("none is safe", x.count(9), 0);
        due("it tips the beam and wins", x.look(1), 1);
        due("it is the best", x.best(1), 144);
        x.set(3, 0);
        due("it tips the beam and loses", x.look(1), -1);
        due("it is the best all the same", x.best(3), 144);
    }

    private static String all(LastingBeam x) {
        StringBuilder all = new StringBuilder();
        for (int what = 0; what <= 16; what++) {
            all.append(x.count(what)).append(' ');
        }
        for (int place = -6; place <= 6; place++) {
            for (int what = 0; what <= 7; what++) {
                all.append(x.at(place, what)).append(' ').append(x.reason(what, place)).append(' ');
            }
        }
        for (int weight = 0; weight <= 5; weight++) {
            all.append(x.bag(0, weight)).append(' ').append(x.bag(1, weight)).append(' ');
        }
        for (int what = 0; what <= 3; what++) {
            all.append(x.made(0, what)).append(' ');
        }
        return all.toString();
    }

    // -- Promise 21

    private static void best() {
        LastingBeam x = new LastingBeam();
        due("the nearest to 0, the first of them", x.best(1), 149);
        due("best(0)", x.best(0), BAD_VALUE);
        due("best(4)", x.best(4), BAD_VALUE);
        due("best(-1)", x.best(-1), BAD_VALUE);
        due("best is no act", x.count(15), 0);
        due("best makes no move", x.count(3), 0);
        x.lay(1, 6);
        due("level, the first of them", x.best(1), 144);
        x.setBag(1, 1, 0);
        due("level, the first of them", x.best(1), 247);

        LastingBeam y = new LastingBeam();
        y.set(3, 1);
        due("tips as little as it can: 3 times -3", y.best(1), 347);
        y.set(1, 11);
        due("2 times -6", y.best(1), 244);
        y.set(3, 0);
        y.setUp(5, 3);
        due("over", y.best(1), NONE);
        due("over: bad value first", y.best(0), BAD_VALUE);
        y.begin();
        emptyBag(y, 0);
        due("no move", y.best(3), NONE);

        LastingBeam z = new LastingBeam();
        emptyBag(z, 0);
        emptyBag(z, 1);
        z.setBag(0, 1, 1);
        z.setBag(0, 2, 1);
        z.setBag(1, 1, 1);
        z.set(1, 2);
        z.set(3, 1);
        // Who tips wins. With 1 at -1 or at 1 behind it, the side 1 tips; with 2 at -1, too.
        due("tips as little as it can", z.best(1), 147);
        emptyBag(z, 0);
        z.setBag(0, 5, 1);
        z.setUp(1, -6);
        z.setUp(2, 3);
        z.set(1, 0);
        due("laying a 5 is all there is", z.best(1), 549);
        z.set(2, 1);
        due("moving is nearer to 0", z.best(1), 644);
    }

    /** The look ahead comes ahead of the turn. */
    private static void bestByWorth() {
        LastingBeam x = new LastingBeam();
        emptyBag(x, 0);
        emptyBag(x, 1);
        x.setBag(0, 1, 1);
        x.setBag(1, 2, 1);
        x.set(1, 3);
        // Whatever 0 lays within the limit, 1 has a place for its 2, and it is drawn.
        due("nothing is won", x.look(3), 0);
        due("the nearest", x.best(3), 149);
        x.set(0, 1);
        x.setUp(1, -1);
        x.setUp(1, 1);
        due("the nearest that is free", x.best(1), 148);
        x.setBag(1, 2, 0);
        x.setBag(1, 5, 1);
        // A 5 is safe at 1 or -1 alone, and both are full: each safe move wins.
        due("the side 0 wins", x.look(2), 1);
        due("by the nearest move that is safe", x.best(2), 148);
        x.begin();
        // With 2 or 3 behind it a 5 is safe at -1; with 1 at -1 or 1 it is not.
        due("the side 0 wins", x.look(2), 1);
        due("by 1 at -1", x.best(2), 149);
        x.setUp(1, -1);
        due("by 1 at 1, which levels the beam and leaves neither place free", x.best(2), 151);
        x.setUp(1, -4);
        due("tipped", x.best(2), NONE);
        x.set(1, 5);
        // The turn is -5. 1 at 5 levels the beam, but then a 5 is safe at 1. It is not with
        // 1 at 1, which is full then, nor with 1 at 6, which is nearer to 0.
        due("the nearest, as far as one move tells", x.best(1), 155);
        due("the nearest of those that win", x.best(2), 156);
        due("and so three moves ahead", x.best(3), 156);
        due("the side 0 wins", x.look(2), 1);
        due("one move tells nothing", x.look(1), 0);
    }

    // -- Promise 22

    private static void levels() {
        LastingBeam x = new LastingBeam();
        for (int weight = 1; weight <= 5; weight++) {
            due("level already", x.levels(weight), NONE);
        }
        x.setUp(3, 2);
        due("levels(1)", x.levels(1), -6);
        due("levels(2)", x.levels(2), -3);
        due("levels(3)", x.levels(3), -2);
        due("no whole place", x.levels(4), NONE);
        due("no whole place", x.levels(5), NONE);
        emptyBag(x, 0);
        emptyBag(x, 1);
        due("whoever laid it", x.levels(3), -2);
        x.set(0, 1);
        x.begin();
        x.setUp(1, 2);
        x.setUp(5, -2);
        due("turn", x.count(1), -8);
        due("full", x.levels(4), NONE);
        x.set(0, 2);
        due("not full", x.levels(4), 2);
        due("levels(2)", x.levels(2), 4);
        due("too far", x.levels(1), NONE);
        x.set(1, 3);
        due("over", x.levels(2), 4);
        x.setUp(2, -2);
        due("turn", x.count(1), -12);
        due("outermost", x.levels(2), 6);
        due("weight 0", x.levels(0), UNKNOWN);
        due("weight 6", x.levels(6), UNKNOWN);
        due("weight -1", x.levels(-1), UNKNOWN);
    }

    // -- Promise 23

    private static void made() {
        LastingBeam x = new LastingBeam();
        due("none", x.made(0, 0), NONE);
        due("back -1", x.made(-1, 0), BAD_VALUE);
        due("what 4", x.made(0, 4), BAD_VALUE);
        due("what -1", x.made(0, -1), BAD_VALUE);
        due("bad value ahead of none", x.made(9, 9), BAD_VALUE);
        x.lay(3, -2);
        x.setUp(1, 1);
        x.set(2, 1);
        x.push(-2, false);
        int[][] wanted = {{1, 7, -2, -3}, {0, 3, -2, -6}};
        for (int back = 0; back < 2; back++) {
            for (int what = 0; what < 4; what++) {
                due("made(" + back + ", " + what + ")", x.made(back, what), wanted[back][what]);
            }
        }
        due("no more", x.made(2, 0), NONE);
        due("far too many", x.made(Integer.MAX_VALUE, 3), NONE);
        due("back min", x.made(Integer.MIN_VALUE, 3), BAD_VALUE);

        LastingBeam y = new LastingBeam();
        y.set(2, 1);
        y.setUp(1, 1);
        y.setUp(2, -4);
        y.lay(1, 3);
        // Two tokens go to and fro in turns: 40 moves, so that the laying is no longer told.
        int[] places = {1, -4, 2, -5};
        boolean[] inward = {false, false, true, true};
        int[] told = {1, -2, -1, 2};
        for (int i = 0; i < 40; i++) {
            due("the latest but the laying", y.made(i, 1), i == 0 ? 1 : y.made(i, 1));
            y.push(places[i % 4], inward[i % 4]);
            due("moves", y.count(3), 2 + i);
            due("told together", y.count(4), y.count(1) + 7);
            due("told", y.made(0, 3), told[i % 4]);
            if (i == 38) {
                due("the laying is the 40th", y.made(39, 1), 1);
            }
        }
        due("not the laying", y.made(39, 1), 7);
        due("not the laying", y.made(39, 2), 1);
        due("not more than 40", y.made(40, 1), NONE);
        due("bad value", y.made(40, 4), BAD_VALUE);
        due("moves are counted on", y.count(3), 41);
        due("told together is kept for all", y.count(4), 3);
        y.undo();
        due("undo brings the oldest one back", y.made(39, 1), 1);
    }

    // -- Promise 24

    private static void count() {
        LastingBeam x = new LastingBeam();
        x.setUp(2, -2);
        x.lay(1, 3);
        x.lay(5, 1);
        x.lay(2, -4);
        x.type('1');
        counts("count", x, 0, 1, -4, 0, 3, 0, -4, 4, 10);
        due("count(8)", x.count(8), 60);
        due("count(9)", x.count(9), safeByHand(x));
        due("count(10)", x.count(10), 4);
        counts("count", x, 11, 2, 8, 0, 0, 4, 1);
        due("count(-1)", x.count(-1), BAD_VALUE);
        due("count(17)", x.count(17), BAD_VALUE);
        due("count(min)", x.count(Integer.MIN_VALUE), BAD_VALUE);
        x.set(2, 1);
        due("moving is counted", x.count(8), 68);
        x.lay(5, 2);
        x.lay(2, -6);
        due("greatest turn", x.count(10), 6);
        x.lay(1, 6);
        due("the sign is left out", x.count(10), 6);
        x.setUp(5, 6);
        due("setUp is none", x.count(10), 6);
        due("what setUp changed", x.count(5), 26);
    }

    private static void safeMoves() {
        LastingBeam x = new LastingBeam();
        emptyBag(x, 0);
        x.setBag(0, 3, 1);
        x.set(2, 1);
        x.setUp(4, 3);
        x.setUp(1, -5);
        // The turn is 7. A 3 is safe from -5 to -1; moving: 4 inward, 1 outward and inward.
        due("turn", x.count(1), 7);
        due("possible", x.count(8), 16);
        due("safe", x.count(9), 8);
        x.set(1, 7);
        due("3 at -5, and 1 inward, are beyond it", x.count(9), 6);
        x.set(1, 6);
        due("over", x.count(9), 0);
        x.begin();
        x.setUp(1, 6);
        x.setBag(0, 3, 0);
        due("one can be moved inward", x.count(8), 1);
        due("and that is safe", x.count(9), 1);
    }

    private static int safeByHand(LastingBeam x) {
        int safe = 0;
        for (int weight = 1; weight <= 5; weight++) {
            for (int place = -6; place <= 6; place++) {
                if (place != 0 && Math.abs(x.count(1) + weight * place) <= 8) {
                    safe++;
                }
            }
        }
        return safe;
    }

    // -- The end

    private static void drawn() {
        LastingBeam x = new LastingBeam();
        emptyBag(x, 0);
        due("one bag is not both", x.count(2), 0);
        emptyBag(x, 1);
        due("drawn", x.count(2), 3);
        x.set(2, 1);
        due("with the setting 2, too", x.count(2), 3);
        x.setUp(1, 1);
        due("moving: over", x.push(1, true), NO_MOVE - 1);
        due("laying: over", x.lay(1, 1), NO_MOVE - 1);
        due("none", x.count(8), 0);
        due("best", x.best(1), NONE);
        x.set(1, 0);
        due("tipped comes first", x.count(2), 1);
        x.set(1, 8);
        x.setBag(1, 2, 1);
        due("goes on again", x.count(2), 0);
        due("0 can move a token", x.push(1, true), -1);
        due("the last token, tipping", x.lay(2, -4), -9);
        due("1 has tipped and loses", x.count(2), 1);
    }

    private static void whoLoses() {
        LastingBeam x = new LastingBeam();
        due("tips", x.lay(5, -2), -10);
        due("0 loses", x.count(2), 2);
        due("1 is to move", x.count(0), 1);
        due("1 wins", x.look(0), 1);
        x.set(3, 1);
        due("0 wins", x.count(2), 1);
        due("1 loses", x.look(0), -1);
        x.begin();
        x.lay(1, 1);
        due("tips", x.lay(5, 6), 31);
        due("1 wins", x.count(2), 2);
        x.set(3, 0);
        due("1 loses", x.count(2), 1);
        due("0 is to move", x.look(2), 1);
        x.set(1, 31);
        due("just within", x.count(2), 0);
        x.set(1, 30);
        due("just beyond", x.count(2), 1);
    }
}
