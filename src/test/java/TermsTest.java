import java.util.List;
import java.util.function.Consumer;

/** The sentences under "Terms" that name an edge, each by a test of its own. */
public final class TermsTest {
    private static final int UNKNOWN = -10001;
    private static final int FULL = -10003;
    private static final int NOT_POSSIBLE = -10004;
    private static final int NONE = -10005;
    private static final int NO_MOVE = -10010;
    private static final int FAULT = -10100;

    private static final int[] PLACES = {-6, -5, -4, -3, -2, -1, 1, 2, 3, 4, 5, 6};

    private static final Check CHECK = new Check();

    public static void main(String[] args) {
        eachPlaceHoldsItsOwn();
        asManyAsTheSettingTells();
        placesKeepWhatTheyHold();
        oneAboveTheOther();
        levelAndTipped();
        tippedByAMove();
        tokensRunOut();
        acrossTheMiddle();
        notFromWhereItCameJustBefore();
        whatDoesNotFreeThePlace();
        theOtherSideIsToMove();
        leftOutInATextOfMoves();
        nothingElseChangesTheSide();
        whoLoses();
        noMoveWasMade();
        drawnWithTheLastToken();
        bagsAndLimitAtAnyTime();
        lookBehindTheEnd();
        lookAtTheSameSide();
        bestForTheSameSide();
        noMoveBehindAMove();
        lookMakesNoMove();
        orderOfMoves();
        theFirstOfSeveral();
        toldTogetherIsKeptForAll();
        theBeamToldASecondTime();
        theGreatestTurn();
        charactersOfATextOfMoves();
        fourStates();
        recordedByEachAct();
        notRecorded();
        whatAStateLeavesOut();
        undoOfRestoreAndBegin();
        theLatestStop();
        eachObjectHasItsOwn();
        allCallsThatArePromised();
        CHECK.end("TermsTest");
    }

    private static void due(String call, long got, long want) {
        CHECK.due(call, got, want);
    }

    private static void emptyBag(Face x, int side) {
        for (int weight = 1; weight <= 5; weight++) {
            x.setBag(side, weight, 0);
        }
    }

    private static void write(Face x, String text) {
        x.clearText();
        for (int i = 0; i < text.length(); i++) {
            x.type(text.charAt(i));
        }
    }

    private static int performs(Face x, String text) {
        write(x, text);
        return x.perform();
    }

    // -- The beam

    private static void eachPlaceHoldsItsOwn() {
        LastingBeam x = new LastingBeam();
        x.set(0, 4);
        for (int i = 0; i < 12; i++) {
            x.setUp(1 + i % 5, PLACES[i]);
            x.setUp(1 + i / 5, PLACES[i]);
        }
        int turn = 0;
        for (int i = 0; i < 12; i++) {
            int sum = 2 + i % 5 + i / 5;
            due("tokens on " + PLACES[i], x.at(PLACES[i], 0), 2);
            due("weights on " + PLACES[i], x.at(PLACES[i], 1), sum);
            due("uppermost on " + PLACES[i], x.at(PLACES[i], 2), 1 + i / 5);
            due("told by " + PLACES[i], x.at(PLACES[i], 3), sum * PLACES[i]);
            turn += sum * PLACES[i];
        }
        due("the turn is the sum of all", x.count(1), turn);
        due("0 is no place", x.at(0, 0), UNKNOWN);
    }

    private static void asManyAsTheSettingTells() {
        for (int height = 1; height <= 4; height++) {
            for (int place : PLACES) {
                LastingBeam x = new LastingBeam();
                x.set(0, height);
                x.set(1, 40);
                x.set(2, 1);
                x.setBag(0, 1, 6);
                x.setBag(1, 1, 6);
                int inner = place == 1 ? -1 : place == -1 ? 1 : place > 0 ? place - 1 : place + 1;
                x.setUp(1, inner);
                for (int i = 1; i < height; i++) {
                    due("laid", x.lay(1, place), inner + i * place);
                }
                due("room for one by moving", x.reason(way(inner, place), inner), 0);
                due("room for one by laying", x.lay(1, place), inner + height * place);
                due("full for laying", x.lay(1, place), NO_MOVE - 4);
                due("full for moving", x.push(inner, way(inner, place) == 6), NO_MOVE - 4);
                due("full for setting up", x.setUp(1, place), FULL);
                due("so many", x.at(place, 0), height);
                if (height < 4) {
                    x.set(0, height + 1);
                    due("room for one more by moving", x.push(inner, way(inner, place) == 6), (height + 1) * place);
                }
            }
        }
    }

    /** Places that hold more than the setting 0 tells: none comes onto them, but theirs can go. */
    private static void placesKeepWhatTheyHold() {
        LastingBeam x = new LastingBeam();
        x.set(0, 4);
        x.set(1, 40);
        x.set(2, 1);
        for (int weight = 1; weight <= 4; weight++) {
            x.setUp(weight, 2);
        }
        x.set(0, 1);
        due("four are kept", x.at(2, 0), 4);
        due("none is laid onto them", x.lay(1, 2), NO_MOVE - 4);
        due("none is set up on them", x.setUp(1, 2), FULL);
        due("the uppermost one goes inward", x.push(2, true), 16);
        due("three are left", x.at(2, 0), 3);
        due("1 is full now", x.push(2, true), NO_MOVE - 4);
        due("the next one goes outward", x.push(2, false), 19);
        due("two are left", x.at(2, 0), 2);
        due("that is more than one still, for moving", x.push(1, false), NO_MOVE - 4);
        due("for laying", x.lay(1, 2), NO_MOVE - 4);
        due("three can lie", x.set(0, 3), 1);
        due("a third one", x.lay(1, 2), 21);
        due("not a fourth one", x.lay(1, 2), NO_MOVE - 4);

        LastingBeam y = new LastingBeam();
        y.setUp(1, 2);
        y.setUp(1, 2);
        y.setUp(4, -2);
        due("a 2 at 2 would level it, but 2 is full", y.levels(2), NONE);
        y.set(0, 1);
        due("2 holds more than it can", y.levels(2), NONE);
        due("1 is free", y.levels(4), 1);
        y.set(0, 3);
        due("2 is not full", y.levels(2), 2);
    }

    /** The number of the move from a place to the one beside it. */
    private static int way(int from, int to) {
        return Math.abs(to) > Math.abs(from) ? 7 : 6;
    }

    private static void oneAboveTheOther() {
        LastingBeam x = new LastingBeam();
        x.set(0, 4);
        x.set(1, 40);
        x.set(2, 1);
        for (int weight = 2; weight <= 5; weight++) {
            x.setUp(weight, 2);
        }
        for (int weight = 5; weight >= 2; weight--) {
            due("the uppermost one", x.at(2, 2), weight);
            due("so many", x.at(2, 0), weight - 1);
            x.push(2, weight % 2 == 0);
            due("went there", x.at(weight % 2 == 0 ? 1 : 3, 2), weight);
        }
        due("none is left", x.at(2, 2), NONE);
        due("3 lies above 5", x.at(3, 1), 8);
        due("3 lies above 5", x.at(3, 2), 3);
        due("2 lies above 4", x.at(1, 1), 6);
        due("2 lies above 4", x.at(1, 2), 2);
        x.lay(1, 1);
        due("a token that is laid lies above, too", x.at(1, 2), 1);
    }

    /** A beam of a turn from -41 to 41, by tokens that were set up. */
    private static LastingBeam turnedBy(int turn) {
        LastingBeam x = new LastingBeam();
        int sign = turn < 0 ? -1 : 1;
        int left = Math.abs(turn);
        if (left >= 30) {
            x.setUp(5, sign * 6);
            left -= 30;
        }
        if (left > 6) {
            x.setUp(left / 6, sign * 6);
            left %= 6;
        }
        if (left > 0) {
            x.setUp(1, sign * left);
        }
        due("turned by " + turn, x.count(1), turn);
        return x;
    }

    private static void levelAndTipped() {
        for (int limit = 0; limit <= 40; limit++) {
            for (int sign = -1; sign <= 1; sign += 2) {
                LastingBeam within = turnedBy(sign * limit);
                within.set(1, limit);
                due("a turn of " + sign * limit + " with that limit", within.count(2), 0);
                due("a token can be laid", within.reason(1, 3), 0);
                LastingBeam beyond = turnedBy(sign * (limit + 1));
                beyond.set(1, limit);
                due("a turn of " + sign * (limit + 1) + ", one beyond it", beyond.count(2), 1);
                due("none can be laid", beyond.reason(1, 3), 1);
            }
        }
        due("the limit is 8 at first", turnedBy(8).count(2), 0);
        due("the limit is 8 at first", turnedBy(9).count(2), 1);
        due("the limit is 8 at first", turnedBy(-8).count(2), 0);
        due("the limit is 8 at first", turnedBy(-9).count(2), 1);
        LastingBeam level = turnedBy(0);
        level.set(1, 0);
        due("a level beam has never tipped", level.count(2), 0);
    }

    private static void tippedByAMove() {
        for (int sign = -1; sign <= 1; sign += 2) {
            LastingBeam x = turnedBy(sign * 3);
            due("to the limit", x.lay(5, sign), sign * 8);
            due("it goes on", x.count(2), 0);
            due("one beyond it", x.lay(1, sign), sign * 9);
            due("the side 1 has tipped it", x.count(2), 1);
            LastingBeam y = turnedBy(sign * 7);
            y.set(2, 1);
            due("moved to the limit", y.push(sign, false), sign * 8);
            due("it goes on", y.count(2), 0);
            due("one beyond it", y.push(sign * 6, false), NO_MOVE - 4);
            y.lay(1, sign);
            due("one beyond it", y.count(2), 1);
            LastingBeam z = turnedBy(sign * 8);
            z.set(2, 1);
            due("moved from the limit", z.push(sign * 2, true), sign * 7);
            z.lay(1, sign);
            due("moved beyond it", z.push(sign, false), sign * 9);
            due("the side 0 has tipped it", z.count(2), 2);
        }
        LastingBeam x = turnedBy(8);
        x.set(2, 1);
        due("moved beyond it", x.push(2, false), 9);
        due("the side 0 has tipped it", x.count(2), 2);
    }

    // -- Bags, moves

    private static void tokensRunOut() {
        for (int many = 0; many <= 6; many++) {
            LastingBeam x = new LastingBeam();
            x.set(0, 4);
            x.setBag(0, 3, many);
            x.setBag(1, 3, 0);
            x.setBag(1, 1, 6);
            for (int i = 0; i < many; i++) {
                boolean odd = i % 2 == 1;
                due("the " + (i + 1) + ". of " + many, x.lay(3, odd ? -1 : 1), odd ? 2 : 3);
                due("left", x.bag(0, 3), many - 1 - i);
                due("the other side has none", x.lay(3, 2), NO_MOVE - 2);
                due("but another one", x.lay(1, odd ? -2 : 2), odd ? 0 : 5);
            }
            due("no more than " + many, x.lay(3, 5), NO_MOVE - 2);
            due("none is left", x.bag(0, 3), 0);
        }
    }

    private static void acrossTheMiddle() {
        int[] inward = {6, 5, 4, 3, 2, 1, -1};
        int[] outward = {-1, -2, -3, -4, -5, -6};
        for (int sign = -1; sign <= 1; sign += 2) {
            for (int i = 1; i < inward.length; i++) {
                movedAlone(sign * inward[i - 1], true, sign * inward[i]);
            }
            for (int i = 1; i < outward.length; i++) {
                movedAlone(sign * outward[i - 1], false, sign * outward[i]);
            }
            LastingBeam x = new LastingBeam();
            x.set(1, 40);
            x.set(2, 1);
            x.setUp(4, sign * 6);
            due("not beyond it", x.push(sign * 6, false), NO_MOVE - 4);
            due("it lies there still", x.at(sign * 6, 2), 4);
        }
    }

    private static void movedAlone(int from, boolean inward, int to) {
        LastingBeam x = new LastingBeam();
        x.set(1, 40);
        x.set(2, 1);
        x.setUp(4, from);
        due("from " + from + " to " + to, x.push(from, inward), 4 * to);
        due("what it told", x.made(0, 3), 4 * (to - from));
        due("not again", x.push(to, true), NO_MOVE - 3);
        due("not again", x.push(to, false), NO_MOVE - 3);
        x.lay(1, -to);
        due("back again", x.push(to, !inward || from + to == 0), 4 * from - to);
    }

    private static void notFromWhereItCameJustBefore() {
        for (int from : PLACES) {
            for (int number = 6; number <= 7; number++) {
                if (number == 7 && Math.abs(from) == 6) {
                    continue;
                }
                LastingBeam x = new LastingBeam();
                x.set(0, 4);
                x.set(1, 40);
                x.set(2, 1);
                for (int place : PLACES) {
                    x.setUp(1, place);
                }
                due("moved", x.push(from, number == 6), x.made(0, 3));
                int to = from + x.made(0, 3);
                x.setUp(1, from);
                for (int place : PLACES) {
                    boolean beyond = Math.abs(place) == 6;
                    due("inward from " + place, x.reason(6, place), place == to ? 3 : 0);
                    due("outward from " + place, x.reason(7, place), place == to ? 3 : beyond ? 4 : 0);
                    due("laying onto " + place, x.reason(1, place), 0);
                }
                x.lay(1, -to);
                due("a laying frees it", x.reason(6, to), 0);
            }
        }
    }

    /** Only a move that is made, begin(), undo() and restore() change from where none can be moved. */
    private static void whatDoesNotFreeThePlace() {
        LastingBeam x = new LastingBeam();
        x.set(1, 40);
        x.set(2, 1);
        x.keep();
        x.setUp(1, 3);
        x.setUp(1, 1);
        x.push(3, true);
        due("just before", x.reason(6, 2), 3);
        x.set(0, 4);
        x.setBag(0, 5, 6);
        x.setUp(1, 2);
        x.lay(1, 9);
        x.push(6, true);
        x.clearText();
        x.look(3);
        x.best(3);
        performs(x, "1@1;3i");
        due("still", x.reason(6, 2), 3);
        due("still, outward", x.reason(7, 2), 3);
        x.set(2, 0);
        due("no moving at all", x.reason(6, 2), 2);
        x.set(2, 1);
        due("still", x.reason(6, 2), 3);
        due("another move", x.push(1, false), 6);
        due("that one is held now", x.reason(6, 2), 3);
        x.push(2, false);
        due("undo", x.undo(), 3);
        due("held as before", x.reason(7, 2), 3);
        x.restore();
        x.setUp(1, 2);
        due("restored", x.reason(7, 2), 0);
        x.undo();
        x.undo();
        due("held again", x.reason(7, 2), 3);
        x.begin();
        for (int place : PLACES) {
            x.setUp(1, place);
        }
        for (int place : PLACES) {
            due("begun: inward from " + place, x.reason(6, place), 0);
            due("begun: outward from " + place, x.reason(7, place), Math.abs(place) == 6 ? 4 : 0);
        }
    }

    /** What each side has left behind a laying by the side 0, the setting 2, and who is to move. */
    private static void theOtherSideIsToMove() {
        int[][] cases = {
            {1, 1, 0, 1}, {1, 0, 0, 0}, {0, 1, 0, 1}, {0, 0, 0, 1},
            {1, 1, 1, 1}, {1, 0, 1, 1}, {0, 1, 1, 1}, {0, 0, 1, 1}};
        for (int[] c : cases) {
            for (int mover = 0; mover <= 1; mover++) {
                LastingBeam x = new LastingBeam();
                if (mover == 1) {
                    x.lay(1, -1);
                }
                emptyBag(x, 0);
                emptyBag(x, 1);
                x.setBag(mover, 1, 1);
                x.setBag(mover, 5, c[0]);
                x.setBag(1 - mover, 3, c[1]);
                x.set(2, c[2]);
                due("to move", x.count(0), mover);
                x.lay(1, 1);
                String left = c[0] + " and " + c[1] + " left, setting 2 at " + c[2] + ", moved by " + mover;
                due(left, x.count(0), c[3] == 1 ? 1 - mover : mover);
                due(left + ": result", x.count(2), c[0] + c[1] == 0 ? 3 : 0);
            }
        }
    }

    private static void leftOutInATextOfMoves() {
        LastingBeam x = new LastingBeam();
        emptyBag(x, 0);
        x.setBag(0, 1, 1);
        due("0 lays its last one, then 1 alone", performs(x, "1@1;2@-1;2@1;1@1"), NOT_POSSIBLE);
        due("1 is full", x.stopped(0), 3);
        due("1 is full", x.stopped(1), 4);
        due("0 lays its last one, then 1 alone", performs(x, "1@1;2@-1;2@1;1@-1"), 4);
        for (int back = 0; back < 4; back++) {
            due("by the side", x.made(back, 0), back == 3 ? 0 : 1);
        }
        due("1 goes on", x.count(0), 1);
        x.setBag(0, 4, 1);
        due("a token more changes no side", x.count(0), 1);
        x.lay(1, 2);
        due("0 has one again", x.count(0), 0);
    }

    private static void nothingElseChangesTheSide() {
        for (int side = 0; side <= 1; side++) {
            LastingBeam x = new LastingBeam();
            x.set(1, 40);
            if (side == 1) {
                x.lay(1, 1);
            }
            emptyBag(x, 0);
            due("without tokens of 0", x.count(0), side);
            emptyBag(x, 1);
            due("without tokens", x.count(0), side);
            x.setBag(1 - side, 1, 1);
            due("only the other one has some", x.count(0), side);
            due("and cannot lay it", x.lay(1, 2), NO_MOVE - 2);
            x.set(2, 1);
            x.set(3, 1);
            x.set(0, 3);
            due("settings", x.count(0), side);
            x.setUp(2, 3);
            due("setUp", x.count(0), side);
            x.set(1, 0);
            due("over", x.count(0), side);
            x.keep();
            x.clearText();
            x.type('1');
            x.perform();
            x.look(3);
            x.best(3);
            x.play(3);
            due("what is told", x.count(0), side);
            x.undo();
            due("undo of a setting", x.count(0), side);
            x.begin();
            due("begin", x.count(0), 0);
            x.undo();
            due("undo of begin", x.count(0), side);
            x.begin();
            x.restore();
            due("restore", x.count(0), side);
        }
    }

    // -- The end

    private static void whoLoses() {
        for (int tipper = 0; tipper <= 1; tipper++) {
            for (int wins = 0; wins <= 1; wins++) {
                for (int sign = -1; sign <= 1; sign += 2) {
                    LastingBeam x = new LastingBeam();
                    x.set(3, wins);
                    if (tipper == 1) {
                        x.lay(1, sign);
                    }
                    x.lay(5, 6 * sign);
                    int winner = wins == 1 ? tipper : 1 - tipper;
                    String how = "tipped by " + tipper + ", setting 3 at " + wins + ", to " + sign;
                    due(how, x.count(2), 1 + winner);
                    due(how + ": to move", x.count(0), 1 - tipper);
                    for (int depth = 0; depth <= 3; depth++) {
                        due(how + ": look", x.look(depth), winner == 1 - tipper ? 1 : -1);
                    }
                    due(how + ": best", x.best(1), NONE);
                    due(how + ": possible", x.possible(0), NONE);
                    due(how + ": laying", x.lay(1, -sign), NO_MOVE - 1);
                    due(how + ": play", x.play(1), NOT_POSSIBLE);
                    x.set(3, 1 - wins);
                    due(how + ": the other way then", x.count(2), 2 - winner);
                }
            }
        }
    }

    private static void noMoveWasMade() {
        LastingBeam x = new LastingBeam();
        x.setUp(5, 6);
        due("the side 1, which loses", x.count(2), 1);
        x.set(3, 1);
        due("the side 1, which wins", x.count(2), 2);
        due("the side 0 is to move", x.look(0), -1);
        x.begin();
        x.setUp(2, 4);
        x.lay(1, -1);
        x.setUp(1, 6);
        due("the side 0, which made the last move, wins", x.count(2), 1);
        x.undo();
        x.undo();
        x.setUp(1, 6);
        due("that move is undone", x.count(2), 2);
        x.begin();
        x.setUp(5, -6);
        due("no move since the beginning", x.count(2), 2);
    }

    private static void drawnWithTheLastToken() {
        for (int moving = 0; moving <= 1; moving++) {
            LastingBeam x = new LastingBeam();
            emptyBag(x, 0);
            emptyBag(x, 1);
            x.setBag(0, 3, 1);
            x.setBag(1, 4, 1);
            x.set(2, moving);
            due("it goes on", x.count(2), 0);
            x.lay(3, 2);
            due("one bag has a token still", x.count(2), 0);
            due("the last token", x.lay(4, -3), -6);
            due("drawn", x.count(2), 3);
            due("drawn tells 0", x.look(0), 0);
            due("drawn tells 0", x.look(3), 0);
            due("no move is possible", x.count(8), 0);
            due("laying", x.lay(3, 1), NO_MOVE - 1);
            due("moving", x.push(2, true), NO_MOVE - 1);
            x.undo();
            due("the last token, tipping", x.lay(4, -4), -10);
            due("not drawn: 1 has tipped it", x.count(2), 1);
            x.set(1, 10);
            due("within another limit: drawn", x.count(2), 3);
            x.set(1, 9);
            due("beyond it: tipped", x.count(2), 1);
            x.begin();
            due("begin with empty bags: drawn", x.count(2), 3);
        }
    }

    private static void bagsAndLimitAtAnyTime() {
        LastingBeam x = new LastingBeam();
        emptyBag(x, 0);
        due("one empty bag", x.count(2), 0);
        emptyBag(x, 1);
        due("both", x.count(2), 3);
        x.setBag(1, 5, 1);
        due("one token", x.count(2), 0);
        x.setBag(1, 5, 0);
        due("none", x.count(2), 3);
        x.setUp(3, 3);
        due("tipped", x.count(2), 1);
        due("settings in the end", x.set(1, 9), 8);
        due("drawn again", x.count(2), 3);
        x.setBag(0, 1, 1);
        due("it goes on", x.count(2), 0);
        due("laid", x.lay(1, -1), 8);
        due("drawn", x.count(2), 3);
        x.set(1, 7);
        due("tipped by another limit: 0 made the last move", x.count(2), 2);
        x.set(3, 1);
        due("and wins", x.count(2), 1);
    }

    // -- Looking ahead

    private static void lookBehindTheEnd() {
        LastingBeam x = new LastingBeam();
        x.set(1, 0);
        due("each move tips", x.look(1), -1);
        due("and nothing is looked at with the depth 0", x.look(0), 0);
        x.set(3, 1);
        due("each move tips and wins", x.look(1), 1);
        due("and nothing is looked at with the depth 0", x.look(0), 0);
        emptyBag(x, 0);
        for (int depth = 0; depth <= 3; depth++) {
            due("no move is possible", x.look(depth), 0);
        }
        x.set(2, 1);
        x.set(1, 3);
        x.setUp(3, 1);
        due("it can move a token", x.look(1), 1);
        due("outward", x.best(1), 751);
        x.setBag(1, 1, 0);
        x.set(3, 0);
        due("inward", x.best(1), 651);
        due("inward is safe", x.look(1), 0);
    }

    /** The side that moves again takes what is told as its own. */
    private static void lookAtTheSameSide() {
        LastingBeam x = new LastingBeam();
        emptyBag(x, 0);
        emptyBag(x, 1);
        x.setBag(0, 1, 2);
        x.set(1, 0);
        x.setUp(1, 1);
        x.undo();
        due("its first move tips the beam", x.look(1), -1);
        x.set(1, 1);
        due("its first move does not", x.look(1), 0);
        due("its second one does not either", x.look(2), 0);
        due("level behind both", x.best(2), 149);
        x.set(0, 1);
        due("1 and -1 are level still", x.look(2), 0);
        x.set(1, 12);
        x.setUp(1, 1);
        x.setUp(1, -1);
        x.set(1, 2);
        due("one at 2", x.look(1), 0);
        due("and one at -2", x.look(2), 0);
        x.setUp(1, 2);
        x.setUp(1, -2);
        due("each move tips, which it loses", x.look(1), -1);
        x.set(1, 5);
        x.set(3, 1);
        due("at 6 it tips at once, which it wins", x.look(1), 1);
        x.set(1, 6);
        due("not at once", x.look(1), 0);
        due("but by the second one", x.look(2), 1);
        x.setBag(1, 1, 1);
        due("the other side would", x.look(2), -1);
    }

    /** Where the other side is left out, a move is best if the same side wins by its next one. */
    private static void bestForTheSameSide() {
        LastingBeam x = new LastingBeam();
        emptyBag(x, 0);
        emptyBag(x, 1);
        x.setBag(0, 1, 2);
        x.set(1, 10);
        x.set(3, 1);
        x.setUp(2, 2);
        due("one move does not tip it", x.look(1), 0);
        due("it levels it", x.best(1), 146);
        for (int depth = 2; depth <= 3; depth++) {
            due("two tip it, from 1 outward and at 6", x.look(depth), 1);
            due("1 is the nearest of those", x.best(depth), 151);
        }
        due("played", x.play(2), 5);
        due("the side 0 again", x.count(0), 0);
        due("at 6 alone it tips", x.best(1), 156);
        due("played", x.play(1), 11);
        due("the side 0 has won", x.count(2), 1);
        x.undo();
        x.set(3, 0);
        due("who tips loses: the nearest that does not", x.best(1), 145);
        due("nothing is lost", x.look(1), 0);
    }

    /** A side that is to move and cannot: neither wins by that. */
    private static void noMoveBehindAMove() {
        LastingBeam x = new LastingBeam();
        emptyBag(x, 0);
        emptyBag(x, 1);
        x.setBag(0, 5, 1);
        x.set(1, 1);
        x.set(2, 1);
        x.setUp(1, 1);
        due("a 5 onto each place, and the 1 both ways", x.count(8), 14);
        due("the 1 inward is safe", x.count(9), 1);
        for (int depth = 1; depth <= 3; depth++) {
            due("it is no win", x.look(depth), 0);
            due("but the best", x.best(depth), 651);
        }
        due("moved", x.push(1, true), -1);
        due("the side 1 is to move", x.count(0), 1);
        due("it goes on", x.count(2), 0);
        due("no move", x.count(8), 0);
        due("no move", x.possible(0), NONE);
        due("the only token was moved just before", x.reason(6, -1), 3);
        due("its bag is empty", x.reason(5, 2), 2);
        for (int wins = 0; wins <= 1; wins++) {
            x.set(3, wins);
            for (int depth = 0; depth <= 3; depth++) {
                due("look", x.look(depth), 0);
            }
            due("best", x.best(3), NONE);
            due("play", x.play(3), NOT_POSSIBLE);
        }
        x.setBag(1, 1, 1);
        due("a token more", x.count(8), 12);
        due("each tips it but those at 1 and 2", x.count(9), 2);
        due("who tips wins", x.look(1), 1);
    }

    /** Behind each look ahead the latest move is the one that was made. */
    private static void lookMakesNoMove() {
        for (int depth = 1; depth <= 3; depth++) {
            for (int moves = 1; moves <= 3; moves++) {
                LastingBeam x = new LastingBeam();
                x.set(2, 1);
                x.lay(1, 1);
                if (moves > 1) {
                    x.lay(1, 1);
                }
                if (moves > 2) {
                    x.push(1, false);
                }
                x.keepAll(true);
                due("one look", x.look(depth), 0);
                x.best(depth);
                x.keepAll(false);
                due("moves so far", x.count(3), moves);
                due("to move", x.count(0), moves % 2);
                due("moved just before", x.reason(7, 2), 3);
                x.set(1, 0);
                due("it is that which tips", x.count(2), moves % 2 == 1 ? 2 : 1);
            }
        }
    }

    private static void orderOfMoves() {
        LastingBeam x = new LastingBeam();
        emptyBag(x, 0);
        x.setBag(0, 5, 1);
        x.setBag(0, 2, 1);
        x.set(0, 1);
        x.set(2, 1);
        for (int place : PLACES) {
            if (Math.abs(place) != 3 && place != 6) {
                x.setUp(1, place);
            }
        }
        x.set(1, 40);
        // By weights ahead of places, laying ahead of moving, inward ahead of outward.
        int[] wanted = {247, 253, 256, 547, 553, 556, 646, 748, 752, 654, 755};
        for (int rank = 0; rank < wanted.length; rank++) {
            due("possible(" + rank + ")", x.possible(rank), wanted[rank]);
        }
        due("no more", x.possible(wanted.length), NONE);
        x.set(0, 2);
        due("inward first", x.possible(24), 644);
        due("from -5 inward", x.possible(25), 645);
        due("from -5 outward", x.possible(26), 745);
    }

    private static void theFirstOfSeveral() {
        LastingBeam x = new LastingBeam();
        due("1 at -1, and not 1 at 1", x.best(1), 149);
        x.setBag(0, 1, 0);
        due("2 at -1, and not 2 at 1", x.best(1), 249);
        x.setUp(2, 2);
        due("2 at -2, and not 4 at -1", x.best(1), 248);
        x.setBag(0, 2, 0);
        due("4 at -1", x.best(1), 449);
        x.setBag(0, 4, 0);
        due("3 at -1, and not 5 at -1", x.best(1), 349);
        x.set(2, 1);
        due("laying ahead of moving", x.best(1), 349);
        x.setUp(1, -5);
        x.setUp(1, 2);
        due("turn", x.count(1), 1);
        due("-5 outward ahead of 2 inward: both level the beam", x.best(1), 745);
        x.begin();
        x.setUp(1, -4);
        x.setUp(1, 3);
        due("-4 inward ahead of 3 outward", x.best(1), 646);
    }

    // -- Moves so far

    private static void toldTogetherIsKeptForAll() {
        LastingBeam x = new LastingBeam();
        x.set(2, 1);
        x.set(1, 40);
        x.lay(5, 2);
        x.setUp(1, 1);
        x.setUp(1, -4);
        int[] places = {1, -4, 2, -5};
        for (int i = 0; i < 100; i++) {
            x.push(places[i % 4], i % 4 >= 2);
            int told = 10 + (i % 4 == 0 ? 1 : i % 4 == 2 ? -1 : 0);
            due("moves so far", x.count(3), 2 + i);
            due("what they told together", x.count(4), told);
            due("what setUp() changed", x.count(5), -3);
            due("the turn", x.count(1), told - 3);
        }
        int sum = 0;
        for (int back = 0; back < 40; back++) {
            sum += x.made(back, 3);
        }
        due("the latest 40 told nothing together", sum, 0);
        due("no more are told", x.made(40, 3), NONE);
        x.undo();
        due("undo: moves so far", x.count(3), 100);
        due("undo: what they told together", x.count(4), 9);
    }

    /** From the moves that are told, the beam is made a second time. */
    private static void theBeamToldASecondTime() {
        LastingBeam x = new LastingBeam();
        x.set(2, 1);
        for (int i = 0; i < 30; i++) {
            x.play(1);
            if (i % 7 == 3) {
                x.push(-1, false);
            }
        }
        LastingBeam y = new LastingBeam();
        y.set(2, 1);
        int moves = x.count(3);
        due("so many moves are told", moves > 15 && moves <= 40 ? 1 : 0, 1);
        for (int back = moves - 1; back >= 0; back--) {
            int number = x.made(back, 1);
            int place = x.made(back, 2);
            due("side of " + back, x.made(back, 0), y.count(0));
            int before = y.count(1);
            int turn = number <= 5 ? y.lay(number, place) : y.push(place, number == 6);
            due("told by " + back, x.made(back, 3), turn - before);
        }
        for (int place : PLACES) {
            for (int what = 0; what <= 3; what++) {
                due("at " + place, y.at(place, what), x.at(place, what));
            }
        }
        for (int what = 0; what <= 14; what++) {
            due("count(" + what + ")", y.count(what), x.count(what));
        }
    }

    private static void theGreatestTurn() {
        LastingBeam x = new LastingBeam();
        x.setUp(1, 6);
        due("setUp is no move", x.count(10), 0);
        x.lay(2, -6);
        due("behind a move", x.count(10), 6);
        x.setUp(1, -2);
        due("a greater one by setUp", x.count(10), 6);
        x.lay(1, 1);
        due("behind a move, with what setUp did", x.count(10), 7);
        x.lay(1, 5);
        due("a smaller one", x.count(10), 7);
        x.undo();
        x.undo();
        due("undone", x.count(10), 6);
        x.keep();
        x.lay(5, -6);
        due("the one that tips", x.count(10), 38);
        x.restore();
        due("restored", x.count(10), 6);
        x.begin();
        due("begun", x.count(10), 0);
        performs(x, "2@4;1@-1");
        due("in the middle of a text", x.count(10), 8);
        performs(x, "5@6;1@-1");
        due("of one that was stopped", x.count(10), 8);
        x.look(3);
        x.best(3);
        due("not by what is looked at", x.count(10), 8);
    }

    // -- Texts

    /** For each place in a move: what may stand ahead of it, and which characters are allowed. */
    private static void charactersOfATextOfMoves() {
        String[][] rows = {
            {"", "-123456"}, {"1", "@io"}, {"5", "@io"}, {"6", "io"}, {"-", "123456"}, {"-1", "io"}, {"-6", "io"},
            {"1@", "-123456"}, {"5@", "-123456"}, {"1@-", "123456"}, {"1@1", ";"}, {"1@-6", ";"}, {"1i", ";"},
            {"6o", ";"}, {"-3i", ";"}, {"1@1;", "-123456"}, {"1i;", "-123456"}, {"1@1;4", "@io"}, {"1@1;6", "io"},
            {"1@1;-", "123456"}, {"1@1;-2", "io"}, {"1@-1;2@", "-123456"}, {"1@1;2@-", "123456"}, {"-1i;-2o", ";"}};
        for (String[] row : rows) {
            for (int c = 0; c <= 300; c++) {
                char character = (char) (c == 300 ? 65535 : c > 255 ? '1' + 256 + c - 256 : c);
                LastingBeam x = new LastingBeam();
                int answer = performs(x, row[0] + character);
                boolean allowed = row[1].indexOf(character) >= 0;
                int index = row[0].length();
                String call = "\"" + row[0] + "\" and the character " + (int) character;
                if (allowed) {
                    due(call, answer == FAULT - index ? 0 : 1, 1);
                } else {
                    due(call, answer, FAULT - index);
                }
                due(call + ": the text stays", x.count(16), index + 1);
            }
        }
    }

    // -- History

    private static void fourStates() {
        LastingBeam x = new LastingBeam();
        for (int i = 1; i <= 9; i++) {
            x.setUp(1, i < 7 ? i : 6 - i);
            due("states", x.count(15), Math.min(i, 4));
        }
        LastingBeam y = new LastingBeam();
        for (int round = 0; round < 3; round++) {
            for (int i = 1; i <= 5; i++) {
                y.set(1, 10 * round + i);
            }
            for (int left = 3; left >= 0; left--) {
                due("undo", y.undo(), left);
                due("the state of then", y.count(12), 10 * round + left + 1);
            }
            due("no more", y.undo(), NONE);
            due("the oldest one was dropped", y.count(12), 10 * round + 1);
        }
    }

    private static void recorded(String what, int before, LastingBeam x) {
        due(what + " records", x.count(15), before + 1);
    }

    private static void recordedByEachAct() {
        LastingBeam x = new LastingBeam();
        x.keep();
        write(x, "1@3;1@-3");
        x.set(2, 1);
        recorded("set", 0, x);
        x.setBag(0, 1, 6);
        recorded("setBag", 1, x);
        x.setUp(1, 2);
        recorded("setUp", 2, x);
        x.begin();
        recorded("begin", 3, x);
        due("undo of begin", x.undo(), 3);
        due("the token is back", x.at(2, 0), 1);
        x.lay(1, 1);
        recorded("lay", 3, x);
        due("undo of lay", x.undo(), 3);
        due("the token is back in the bag", x.bag(0, 1), 6);
        x.push(2, true);
        recorded("push", 3, x);
        due("undo of push", x.undo(), 3);
        due("the token is back", x.at(2, 0), 1);
        x.play(2);
        recorded("play", 3, x);
        due("undo of play", x.undo(), 3);
        due("no move was made", x.count(3), 0);
        x.perform();
        recorded("perform", 3, x);
        due("undo of perform", x.undo(), 3);
        due("no move was made", x.count(3), 0);
        x.restore();
        recorded("restore", 3, x);
        due("undo of restore", x.undo(), 3);
        due("the token is back", x.at(2, 0), 1);
        due("undo of setUp", x.undo(), 2);
        due("no token", x.at(2, 0), 0);
        due("undo of setBag", x.undo(), 1);
        due("two of the weight", x.bag(0, 1), 2);
        due("undo of set", x.undo(), 0);
        due("no moving", x.count(13), 0);
        due("nothing is left", x.undo(), NONE);
    }

    private static void notRecorded() {
        List<Consumer<Face>> calls = List.of(
                Face::keep, x -> x.type('1'), Face::perform, x -> x.type('i'), Face::perform, x -> x.stopped(0),
                Face::clearText, Face::undo, x -> x.lay(0, 1), x -> x.push(1, true), x -> x.play(0),
                x -> x.setBag(0, 1, 2), x -> x.set(1, 8), x -> x.setUp(1, 0), x -> x.at(1, 0), x -> x.bag(0, 0),
                x -> x.reason(1, 1), x -> x.possible(0), x -> x.look(3), x -> x.best(3), x -> x.levels(1),
                x -> x.made(0, 0), x -> x.count(15));
        LastingBeam x = new LastingBeam();
        for (int i = 0; i < calls.size(); i++) {
            calls.get(i).accept(x);
            due("states behind the call " + i, x.count(15), 0);
        }
    }

    /** A state is everything but the text, the history, the snapshot and the latest stop. */
    private static void whatAStateLeavesOut() {
        LastingBeam x = new LastingBeam();
        x.keep();
        x.setUp(1, 1);
        performs(x, "1@2;1o");
        due("stopped", x.stopped(0), 1);
        x.setUp(1, 2);
        performs(x, "1@1;1@1");
        due("stopped again", x.stopped(1), 4);
        write(x, "-6i");
        x.keep();
        due("undo", x.undo(), 1);
        due("the latest stop is the same", x.stopped(1), 4);
        due("the text is the same", x.count(16), 3);
        due("the text is the same", x.perform(), NOT_POSSIBLE);
        due("no moving", x.stopped(1), 2);
        due("the snapshot is the later one", x.restore(), 2);
        due("the text is the same", x.count(16), 3);
        due("the latest stop is the same", x.stopped(0), 0);
        due("the history is the same, and one more", x.count(15), 2);
        due("undo of restore", x.undo(), 1);
        due("one token", x.count(6), 1);
        due("the snapshot is there still", x.restore(), 2);
        x.begin();
        due("begin leaves the text", x.count(16), 3);
        due("begin leaves the stop", x.stopped(1), 2);
        due("begin leaves the snapshot", x.restore(), 2);
    }

    private static void undoOfRestoreAndBegin() {
        LastingBeam x = new LastingBeam();
        x.set(2, 1);
        x.lay(2, 3);
        x.push(3, true);
        x.keep();
        x.begin();
        x.setBag(1, 3, 5);
        x.restore();
        due("bags come back, too", x.bag(1, 3), 2);
        due("the latest move, too", x.reason(6, 2), 3);
        due("moves, too", x.made(1, 1), 2);
        x.undo();
        due("undo of restore", x.bag(1, 3), 5);
        due("no move", x.made(0, 0), NONE);
        x.undo();
        due("undo of setBag", x.bag(1, 3), 2);
        x.undo();
        due("undo of begin", x.reason(6, 2), 3);
        due("moves", x.count(3), 2);
        due("told together", x.count(4), 4);
        due("the greatest turn", x.count(10), 6);
    }

    private static void theLatestStop() {
        LastingBeam x = new LastingBeam();
        performs(x, "1@1;1@1;1@1;1@1");
        due("the third move", x.stopped(0), 2);
        due("full", x.stopped(1), 4);
        due("the same again", x.perform(), NOT_POSSIBLE);
        due("the third move", x.stopped(0), 2);
        performs(x, "1i");
        due("another one", x.stopped(0), 0);
        due("no moving", x.stopped(1), 2);
        due("it changed nothing else", x.count(15), 0);
    }

    /** What is called on one object changes nothing of another one. */
    private static void eachObjectHasItsOwn() {
        TippingBeam x = new TippingBeam();
        TippingBeam y = new TippingBeam();
        due("x: lay", x.lay(5, 1), 5);
        due("y: lay", y.lay(1, -2), -2);
        due("x: keep", x.keep(), 1);
        due("y: no snapshot", y.restore(), NONE);
        due("x: type", x.type('1'), 1);
        due("y: type", y.type('1'), 1);
        due("y: type", y.type('i'), 2);
        due("y: perform", y.perform(), NOT_POSSIBLE);
        due("y: stopped", y.stopped(1), 2);
        due("x: perform", x.perform(), FAULT - 1);
        due("x: not stopped", x.stopped(1), NONE);
        due("y: set", y.set(1, 3), 8);
        due("x: the limit", x.count(12), 8);
        due("x: setBag", x.setBag(1, 4, 0), 2);
        due("y: the bag", y.bag(1, 4), 2);
        due("y: undo", y.undo(), 1);
        due("x: the history", x.count(15), 2);
        due("x: moved", x.made(0, 2), 1);
        due("y: moved", y.made(0, 2), -2);
        due("x: begin", x.begin(), 1);
        due("y: its token", y.at(-2, 2), 1);
        due("x: restore", x.restore(), 1);
        due("y: tokens", y.count(6), 1);
        due("y: turn", y.count(1), -2);
    }

    /** The 512th call of an object is answered as the first one, also behind very many moves. */
    private static void allCallsThatArePromised() {
        TippingBeam x = new TippingBeam();
        x.set(2, 1);
        x.setUp(1, 1);
        x.setUp(1, 6);
        String text = "1o;6i;2i;5o;".repeat(5).substring(0, 59);
        for (int i = 0; i < 59; i++) {
            x.type(text.charAt(i));
        }
        int calls = 3 + 59;
        while (calls < LastingBeam.PROMISED_CALLS - 5) {
            due("perform", x.perform(), 20);
            calls++;
        }
        due("what they told together", x.count(4), 0);
        due("the side of the oldest that is told", x.made(39, 0), 0);
        due("no more is told", x.made(40, 0), NONE);
        due("undo", x.undo(), 3);
        due("the 512th call: moves so far", x.count(3), 20 * (calls - 3 - 59 - 1));
    }
}
