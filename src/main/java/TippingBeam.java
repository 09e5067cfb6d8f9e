/** A beam on which two lay tokens in turns until it tips. */
public final class TippingBeam {
    public static final int UNKNOWN = -10001;
    public static final int BAD_VALUE = -10002;
    public static final int FULL = -10003;
    public static final int NOT_POSSIBLE = -10004;
    public static final int NONE = -10005;
    public static final int NO_MOVE = -10010;

    private static final int TEXT_FAULT = -10100;
    private static final int MOST_DEPTH = 3;

    private final Beam beam;
    // perform() makes its moves here first, so that a stop leaves the beam untouched.
    private final Beam trial;
    private final Beam snapshot;
    private final History history;
    private final MoveText text;
    private boolean snapshotTaken;
    private boolean everStopped;
    private int stoppedMove;
    private int stoppedReason;

    public TippingBeam() {
        beam = new Beam();
        trial = new Beam();
        snapshot = new Beam();
        history = new History();
        text = new MoveText();
    }

    // ---- moves

    public int lay(int weight, int place) {
        if (!Beam.isWeight(weight) || !Beam.isPlace(place)) {
            return UNKNOWN;
        }
        return makeMove(weight, place);
    }

    public int push(int place, boolean inward) {
        if (!Beam.isPlace(place)) {
            return UNKNOWN;
        }
        return makeMove(inward ? Beam.INWARD : Beam.OUTWARD, place);
    }

    public int play(int depth) {
        if (depth < 1 || depth > MOST_DEPTH) {
            return BAD_VALUE;
        }
        int rank = Search.bestRank(beam, depth);
        if (rank < 0) {
            return NOT_POSSIBLE;
        }
        return makeMove(Beam.numberOf(rank), Beam.placeOf(rank));
    }

    private int makeMove(int number, int place) {
        int reason = beam.whyNot(number, place);
        if (reason != 0) {
            return NO_MOVE - reason;
        }
        history.remember(beam);
        beam.makeMove(number, place);
        return beam.turn();
    }

    // ---- bags, settings

    public int setBag(int side, int weight, int many) {
        if (!Beam.isSide(side) || !Beam.isWeight(weight)) {
            return UNKNOWN;
        }
        if (many < 0 || many > Beam.MOST_IN_BAG) {
            return BAD_VALUE;
        }
        int before = beam.inBag(side, weight);
        if (before == many) {
            return NONE;
        }
        history.remember(beam);
        beam.changeBag(side, weight, many - before);
        return before;
    }

    public int set(int which, int value) {
        if (!Beam.isSetting(which)) {
            return UNKNOWN;
        }
        if (value < Beam.leastOfSetting(which) || value > Beam.mostOfSetting(which)) {
            return BAD_VALUE;
        }
        int before = beam.setting(which);
        if (before == value) {
            return NONE;
        }
        history.remember(beam);
        beam.changeSetting(which, value);
        return before;
    }

    public int setUp(int weight, int place) {
        if (!Beam.isWeight(weight) || !Beam.isPlace(place)) {
            return UNKNOWN;
        }
        if (beam.isFull(place)) {
            return FULL;
        }
        history.remember(beam);
        beam.putOn(weight, place);
        return beam.turn();
    }

    public int begin() {
        int lay = beam.tokens();
        history.remember(beam);
        beam.empty();
        return lay;
    }

    // ---- texts

    public int type(char character) {
        return text.append(character) ? text.length() : FULL;
    }

    public int clearText() {
        int before = text.length();
        text.empty();
        return before;
    }

    public int perform() {
        int fault = text.read();
        if (fault >= 0) {
            return TEXT_FAULT - fault;
        }
        trial.copyFrom(beam);
        int moves = text.moves();
        for (int i = 0; i < moves; i++) {
            int reason = trial.whyNot(text.numberOf(i), text.placeOf(i));
            if (reason != 0) {
                everStopped = true;
                stoppedMove = i;
                stoppedReason = reason;
                return NOT_POSSIBLE;
            }
            trial.makeMove(text.numberOf(i), text.placeOf(i));
        }
        history.remember(beam);
        beam.copyFrom(trial);
        return moves;
    }

    public int stopped(int what) {
        if (what < 0 || what > 1) {
            return BAD_VALUE;
        }
        if (!everStopped) {
            return NONE;
        }
        return what == 0 ? stoppedMove : stoppedReason;
    }

    // ---- history

    public int undo() {
        return history.bringBack(beam) ? history.size() : NONE;
    }

    public int keep() {
        snapshot.copyFrom(beam);
        snapshotTaken = true;
        return beam.tokens();
    }

    public int restore() {
        if (!snapshotTaken) {
            return NONE;
        }
        history.remember(beam);
        beam.copyFrom(snapshot);
        return beam.tokens();
    }

    // ---- what is told

    public int at(int place, int what) {
        if (!Beam.isPlace(place)) {
            return UNKNOWN;
        }
        switch (what) {
            case 0:
                return beam.heightAt(place);
            case 1:
                return beam.weightsAt(place);
            case 2:
                return beam.heightAt(place) > 0 ? beam.uppermostAt(place) : NONE;
            case 3:
                return beam.weightsAt(place) * place;
            default:
                return BAD_VALUE;
        }
    }

    public int bag(int side, int weight) {
        if (!Beam.isSide(side) || (weight != Beam.ALL && !Beam.isWeight(weight))) {
            return UNKNOWN;
        }
        return beam.inBag(side, weight);
    }

    public int reason(int number, int place) {
        if (number < 1 || number > Beam.OUTWARD) {
            return BAD_VALUE;
        }
        if (!Beam.isPlace(place)) {
            return UNKNOWN;
        }
        return beam.whyNot(number, place);
    }

    public int possible(int rank) {
        if (rank < 0) {
            return BAD_VALUE;
        }
        int ahead = rank;
        for (int i = 0; i < Beam.ALL_MOVES; i++) {
            if (beam.whyNot(Beam.numberOf(i), Beam.placeOf(i)) != 0) {
                continue;
            }
            if (ahead == 0) {
                return tellMove(i);
            }
            ahead--;
        }
        return NONE;
    }

    public int look(int depth) {
        if (depth < 0 || depth > MOST_DEPTH) {
            return BAD_VALUE;
        }
        return Search.lookAhead(beam, depth);
    }

    public int best(int depth) {
        if (depth < 1 || depth > MOST_DEPTH) {
            return BAD_VALUE;
        }
        int rank = Search.bestRank(beam, depth);
        return rank < 0 ? NONE : tellMove(rank);
    }

    public int levels(int weight) {
        if (!Beam.isWeight(weight)) {
            return UNKNOWN;
        }
        for (int place = -Beam.ARM; place <= Beam.ARM; place++) {
            if (beam.turn() + weight * place == 0 && Beam.isPlace(place) && !beam.isFull(place)) {
                return place;
            }
        }
        return NONE;
    }

    public int made(int back, int what) {
        if (back < 0 || what < 0 || what >= Beam.MOVE_PARTS) {
            return BAD_VALUE;
        }
        return beam.isMoveKept(back) ? beam.partOfMove(back, what) : NONE;
    }

    public int count(int what) {
        switch (what) {
            case 0:
                return beam.side();
            case 1:
                return beam.turn();
            case 2:
                return beam.outcome();
            case 3:
                return beam.moveCount();
            case 4:
                return beam.toldByMoves();
            case 5:
                return beam.turn() - beam.toldByMoves();
            case 6:
                return beam.tokens();
            case 7:
                return beam.weights();
            case 8:
                return beam.possibleMoves();
            case 9:
                return beam.safeMoves();
            case 10:
                return beam.greatestTurn();
            case 11:
            case 12:
            case 13:
            case 14:
                return beam.setting(what - 11);
            case 15:
                return history.size();
            case 16:
                return text.length();
            default:
                return BAD_VALUE;
        }
    }

    private static int tellMove(int rank) {
        return 100 * Beam.numberOf(rank) + Beam.placeOf(rank) + 50;
    }

    /** A state: all that the history and the snapshot keep. */
    private static final class Beam {
        static final int ARM = 6;
        static final int WEIGHTS = 5;
        static final int MOST_IN_BAG = 6;
        // In the place of a weight: the tokens of all weights.
        static final int ALL = 0;
        // A move's number is the weight of the token that is laid, or one of these.
        static final int INWARD = 6;
        static final int OUTWARD = 7;
        static final int GOES_ON = 0;
        static final int DRAWN = 3;
        static final int MOVE_PARTS = 4;
        // Every move there could be has a rank; the ranks follow the order of possible moves.
        static final int ALL_MOVES = 84;

        private static final int PLACES = 12;
        private static final int LAYINGS = 60;
        private static final int MOST_HEIGHT = 4;
        private static final int KEPT_MOVES = 40;
        private static final int HEIGHT = 0;
        private static final int LIMIT = 1;
        private static final int MOVING = 2;
        private static final int TIPPER_WINS = 3;
        private static final int SETTINGS = 4;
        private static final int BAG_ROW = 6;

        private final int[] stacks = new int[PLACES * MOST_HEIGHT];
        private final int[] heights = new int[PLACES];
        private final int[] bags = new int[2 * BAG_ROW];
        private final int[] settings = new int[SETTINGS];
        private final int[] moves = new int[KEPT_MOVES * MOVE_PARTS];
        private int side;
        // Without a move the beam counts as tipped by the side 1.
        private int latestSide = 1;
        // The place to which the latest move moved a token, or 0.
        private int movedTo;
        private int turn;
        private int told;
        private int greatest;
        private int moveCount;

        Beam() {
            settings[HEIGHT] = 2;
            settings[LIMIT] = 8;
            for (int i = 0; i < bags.length; i++) {
                bags[i] = i == 0 || i == BAG_ROW ? 2 * WEIGHTS : 2;
            }
        }

        void copyFrom(Beam other) {
            if (other == null) {
                return;
            }
            System.arraycopy(other.stacks, 0, stacks, 0, PLACES * MOST_HEIGHT);
            System.arraycopy(other.heights, 0, heights, 0, PLACES);
            System.arraycopy(other.bags, 0, bags, 0, 2 * BAG_ROW);
            System.arraycopy(other.settings, 0, settings, 0, SETTINGS);
            System.arraycopy(other.moves, 0, moves, 0, KEPT_MOVES * MOVE_PARTS);
            side = other.side;
            latestSide = other.latestSide;
            movedTo = other.movedTo;
            turn = other.turn;
            told = other.told;
            greatest = other.greatest;
            moveCount = other.moveCount;
        }

        void empty() {
            for (int i = 0; i < heights.length; i++) {
                heights[i] = 0;
            }
            side = 0;
            latestSide = 1;
            movedTo = 0;
            turn = 0;
            told = 0;
            greatest = 0;
            moveCount = 0;
        }

        // -- ranges

        static boolean isPlace(int place) {
            return place >= -ARM && place <= ARM && place != 0;
        }

        static boolean isWeight(int weight) {
            return weight >= 1 && weight <= WEIGHTS;
        }

        static boolean isSide(int side) {
            return side == 0 || side == 1;
        }

        static boolean isSetting(int which) {
            return which >= 0 && which < SETTINGS;
        }

        static int leastOfSetting(int which) {
            return which == HEIGHT ? 1 : 0;
        }

        static int mostOfSetting(int which) {
            switch (which) {
                case HEIGHT:
                    return MOST_HEIGHT;
                case LIMIT:
                    return 40;
                default:
                    return 1;
            }
        }

        // -- the order of moves

        static int numberOf(int rank) {
            if (rank < LAYINGS) {
                return 1 + rank / PLACES;
            }
            return (rank - LAYINGS) % 2 == 0 ? INWARD : OUTWARD;
        }

        static int placeOf(int rank) {
            int slot = rank < LAYINGS ? rank % PLACES : (rank - LAYINGS) / 2;
            return slot < ARM ? slot - ARM : slot - ARM + 1;
        }

        private static int slotOf(int place) {
            return place < 0 ? place + ARM : place + ARM - 1;
        }

        // -- places

        int heightAt(int place) {
            return isPlace(place) ? heights[slotOf(place)] : 0;
        }

        private int weightAt(int place, int level) {
            if (!isPlace(place) || level < 0 || level >= MOST_HEIGHT) {
                return 0;
            }
            return stacks[slotOf(place) * MOST_HEIGHT + level];
        }

        int uppermostAt(int place) {
            return weightAt(place, heightAt(place) - 1);
        }

        int weightsAt(int place) {
            int sum = 0;
            int height = heightAt(place);
            for (int level = 0; level < height; level++) {
                sum += weightAt(place, level);
            }
            return sum;
        }

        boolean isFull(int place) {
            return heightAt(place) >= settings[HEIGHT];
        }

        void putOn(int weight, int place) {
            int height = heightAt(place);
            if (!isPlace(place) || height < 0 || height >= MOST_HEIGHT) {
                return;
            }
            stacks[slotOf(place) * MOST_HEIGHT + height] = weight;
            heights[slotOf(place)] = height + 1;
            turn += weight * place;
        }

        private int takeFrom(int place) {
            int height = heightAt(place);
            if (!isPlace(place) || height <= 0) {
                return 0;
            }
            int weight = weightAt(place, height - 1);
            heights[slotOf(place)] = height - 1;
            turn -= weight * place;
            return weight;
        }

        int tokens() {
            int sum = 0;
            for (int i = 0; i < heights.length; i++) {
                sum += heights[i];
            }
            return sum;
        }

        int weights() {
            int sum = 0;
            for (int place = -ARM; place <= ARM; place++) {
                sum += weightsAt(place);
            }
            return sum;
        }

        // -- bags and settings

        int inBag(int side, int weight) {
            if (!isSide(side) || weight < ALL || weight > WEIGHTS) {
                return 0;
            }
            return bags[side * BAG_ROW + weight];
        }

        void changeBag(int side, int weight, int more) {
            if (!isSide(side) || !isWeight(weight)) {
                return;
            }
            bags[side * BAG_ROW + weight] += more;
            bags[side * BAG_ROW + ALL] += more;
        }

        int setting(int which) {
            return isSetting(which) ? settings[which] : 0;
        }

        void changeSetting(int which, int value) {
            if (isSetting(which)) {
                settings[which] = value;
            }
        }

        // -- the end

        int outcome() {
            if (Math.abs(turn) > settings[LIMIT]) {
                int winner = settings[TIPPER_WINS] == 1 ? latestSide : 1 - latestSide;
                return 1 + winner;
            }
            return inBag(0, ALL) == 0 && inBag(1, ALL) == 0 ? DRAWN : GOES_ON;
        }

        /** What an end tells for the side that is to move. */
        int worth(int outcome) {
            if (outcome == GOES_ON || outcome == DRAWN) {
                return 0;
            }
            return outcome == 1 + side ? 1 : -1;
        }

        // -- moves

        int whyNot(int number, int place) {
            return outcome() != GOES_ON ? 1 : hindrance(number, place);
        }

        /** The reason for which a move is not possible while the game goes on. */
        int hindrance(int number, int place) {
            if (number < INWARD) {
                if (inBag(side, number) == 0) {
                    return 2;
                }
            } else if (settings[MOVING] == 0) {
                return 2;
            } else if (heightAt(place) == 0 || place == movedTo) {
                return 3;
            }
            int target = targetOf(number, place);
            return !isPlace(target) || isFull(target) ? 4 : 0;
        }

        /** The place to which a move brings its token; no place if there is none. */
        private static int targetOf(int number, int place) {
            if (number < INWARD) {
                return place;
            }
            int outward = place > 0 ? 1 : -1;
            if (number == OUTWARD) {
                return place + outward;
            }
            return place == outward ? -outward : place - outward;
        }

        /** What a move tells: by so much it changes the turn. */
        int tellingOf(int number, int place) {
            if (number < INWARD) {
                return number * place;
            }
            return uppermostAt(place) * (targetOf(number, place) - place);
        }

        void makeMove(int number, int place) {
            int row = rowOf(moveCount);
            moves[row] = side;
            moves[row + 1] = number;
            moves[row + 2] = place;
            moves[row + 3] = tellingOf(number, place);
            told += moves[row + 3];
            moveCount++;
            tryMove(number, place);
            greatest = Math.max(greatest, Math.abs(turn));
        }

        /** Makes a move that is not told among the moves so far; takeBack() takes it back. */
        void tryMove(int number, int place) {
            int target = targetOf(number, place);
            if (number < INWARD) {
                changeBag(side, number, -1);
                putOn(number, place);
                movedTo = 0;
            } else {
                putOn(takeFrom(place), target);
                movedTo = target;
            }
            latestSide = side;
            side = sideBehind(side);
        }

        void takeBack(int number, int place, int itsSide, int latestSideBefore, int movedToBefore) {
            int weight = takeFrom(targetOf(number, place));
            if (number < INWARD) {
                changeBag(itsSide, number, 1);
            } else {
                putOn(weight, place);
            }
            side = itsSide;
            latestSide = latestSideBefore;
            movedTo = movedToBefore;
        }

        private int sideBehind(int mover) {
            int other = 1 - mover;
            boolean leftOut = settings[MOVING] == 0 && inBag(other, ALL) == 0;
            return leftOut && inBag(mover, ALL) > 0 ? mover : other;
        }

        private static int rowOf(int move) {
            return Math.floorMod(move, KEPT_MOVES) * MOVE_PARTS;
        }

        boolean isMoveKept(int back) {
            return back >= 0 && back < KEPT_MOVES && back < moveCount;
        }

        int partOfMove(int back, int what) {
            if (!isMoveKept(back) || what < 0 || what >= MOVE_PARTS) {
                return 0;
            }
            return moves[rowOf(moveCount - 1 - back) + what];
        }

        int possibleMoves() {
            int sum = 0;
            for (int rank = 0; rank < ALL_MOVES; rank++) {
                if (whyNot(numberOf(rank), placeOf(rank)) == 0) {
                    sum++;
                }
            }
            return sum;
        }

        int safeMoves() {
            int sum = 0;
            for (int rank = 0; rank < ALL_MOVES; rank++) {
                int number = numberOf(rank);
                int place = placeOf(rank);
                if (whyNot(number, place) == 0
                        && Math.abs(turn + tellingOf(number, place)) <= settings[LIMIT]) {
                    sum++;
                }
            }
            return sum;
        }

        // -- what is told

        int side() {
            return side;
        }

        int latestSide() {
            return latestSide;
        }

        int movedTo() {
            return movedTo;
        }

        int turn() {
            return turn;
        }

        int toldByMoves() {
            return told;
        }

        int greatestTurn() {
            return greatest;
        }

        int moveCount() {
            return moveCount;
        }
    }

    /** The look ahead. It tries moves on the beam itself and takes each of them back. */
    private static final class Search {
        private static final int BELOW_ALL = -2;

        static int lookAhead(Beam beam, int depth) {
            return ahead(beam, depth, -1, 1);
        }

        /** The rank of the best move, or -1 if no move is possible. */
        static int bestRank(Beam beam, int depth) {
            if (beam.outcome() != Beam.GOES_ON) {
                return -1;
            }
            int best = -1;
            int bestValue = BELOW_ALL;
            int bestTurn = 0;
            for (int rank = 0; rank < Beam.ALL_MOVES; rank++) {
                int number = Beam.numberOf(rank);
                int place = Beam.placeOf(rank);
                if (beam.hindrance(number, place) != 0) {
                    continue;
                }
                int turn = Math.abs(beam.turn() + beam.tellingOf(number, place));
                // A move that is nearer to 0 need only be as good, another one has to be better.
                int enough = best < 0 || turn < bestTurn ? bestValue : bestValue + 1;
                if (enough > 1) {
                    continue;
                }
                int value = behind(beam, number, place, depth - 1, enough - 1, 1);
                if (value >= enough) {
                    best = rank;
                    bestValue = value;
                    bestTurn = turn;
                }
            }
            return best;
        }

        /**
         * The look ahead for the side that is to move. It is exact between low and high; what
         * is answered from low down is at least what is true, from high up at most: so it need
         * not go through what cannot change the answer.
         */
        private static int ahead(Beam beam, int depth, int low, int high) {
            int outcome = beam.outcome();
            if (outcome != Beam.GOES_ON) {
                return beam.worth(outcome);
            }
            if (depth <= 0) {
                return 0;
            }
            int greatest = BELOW_ALL;
            for (int rank = 0; rank < Beam.ALL_MOVES; rank++) {
                int number = Beam.numberOf(rank);
                int place = Beam.placeOf(rank);
                if (beam.hindrance(number, place) != 0) {
                    continue;
                }
                int value = behind(beam, number, place, depth - 1, Math.max(low, greatest), high);
                greatest = Math.max(greatest, value);
                if (greatest >= high) {
                    return greatest;
                }
            }
            return greatest == BELOW_ALL ? 0 : greatest;
        }

        /** The look ahead behind a move, as it is taken for the side that makes the move. */
        private static int behind(Beam beam, int number, int place, int depth, int low, int high) {
            int side = beam.side();
            int latestSideBefore = beam.latestSide();
            int movedToBefore = beam.movedTo();
            beam.tryMove(number, place);
            int value = beam.side() == side
                    ? ahead(beam, depth, low, high)
                    : -ahead(beam, depth, -high, -low);
            beam.takeBack(number, place, side, latestSideBefore, movedToBefore);
            return value;
        }
    }

    /** The latest states, the oldest one first. */
    private static final class History {
        private static final int MOST = 4;

        private final Beam[] states = new Beam[MOST];
        private int size;

        History() {
            for (int i = 0; i < states.length; i++) {
                states[i] = new Beam();
            }
        }

        int size() {
            return size;
        }

        void remember(Beam beam) {
            if (size >= MOST) {
                dropOldest();
            }
            Beam free = size >= 0 && size < states.length ? states[size] : null;
            if (free == null) {
                return;
            }
            free.copyFrom(beam);
            size++;
        }

        // The dropped state's object is used again, so that no call makes a new one.
        private void dropOldest() {
            Beam oldest = states[0];
            for (int i = 1; i < states.length; i++) {
                states[i - 1] = states[i];
            }
            states[MOST - 1] = oldest;
            size = MOST - 1;
        }

        boolean bringBack(Beam beam) {
            Beam latest = size > 0 && size <= states.length ? states[size - 1] : null;
            if (latest == null || beam == null) {
                return false;
            }
            beam.copyFrom(latest);
            size--;
            return true;
        }
    }

    /** The text, and the moves that were read from it. */
    private static final class MoveText {
        private static final int MOST = 60;
        // A move has two characters at least, and a ";" stands between two.
        private static final int MOST_MOVES = 20;

        // What the characters so far amount to.
        private static final int START = 0;
        private static final int WEIGHT_OR_PLACE = 1;
        private static final int PLACE = 2;
        private static final int SIGN = 3;
        private static final int AT = 4;
        private static final int AT_SIGN = 5;
        private static final int WHOLE = 6;
        private static final int WRONG = 7;

        private final char[] characters = new char[MOST];
        private final int[] numbers = new int[MOST_MOVES];
        private final int[] places = new int[MOST_MOVES];
        private int length;
        private int moves;
        // The move that is being read.
        private int number;
        private int digit;
        private boolean negative;

        int length() {
            return length;
        }

        boolean append(char character) {
            if (length < 0 || length >= characters.length) {
                return false;
            }
            characters[length] = character;
            length++;
            return true;
        }

        void empty() {
            length = 0;
        }

        int moves() {
            return moves;
        }

        int numberOf(int move) {
            return move >= 0 && move < numbers.length ? numbers[move] : 0;
        }

        int placeOf(int move) {
            return move >= 0 && move < places.length ? places[move] : 0;
        }

        /** Reads the moves; the fault of the text, or -1 if it has none. */
        int read() {
            moves = 0;
            negative = false;
            int state = START;
            for (int i = 0; i < length && i < characters.length; i++) {
                state = stateBehind(state, characters[i]);
                if (state == WRONG) {
                    return i;
                }
                take(characters[i]);
                if (state == WHOLE) {
                    endMove();
                }
            }
            return state == WHOLE ? -1 : length;
        }

        private static int stateBehind(int state, char c) {
            boolean isPlace = c >= '1' && c <= '6';
            boolean isWay = c == 'i' || c == 'o';
            switch (state) {
                case START:
                    if (c == '-') {
                        return SIGN;
                    }
                    // There is no weight 6, so that a 6 can only be a place.
                    return isPlace ? (c == '6' ? PLACE : WEIGHT_OR_PLACE) : WRONG;
                case WEIGHT_OR_PLACE:
                    return c == '@' ? AT : (isWay ? WHOLE : WRONG);
                case PLACE:
                    return isWay ? WHOLE : WRONG;
                case SIGN:
                    return isPlace ? PLACE : WRONG;
                case AT:
                    return c == '-' ? AT_SIGN : (isPlace ? WHOLE : WRONG);
                case AT_SIGN:
                    return isPlace ? WHOLE : WRONG;
                case WHOLE:
                    return c == ';' ? START : WRONG;
                default:
                    return WRONG;
            }
        }

        private void take(char c) {
            switch (c) {
                case ';':
                    negative = false;
                    break;
                case '-':
                    negative = true;
                    break;
                case '@':
                    number = digit;
                    break;
                case 'i':
                    number = Beam.INWARD;
                    break;
                case 'o':
                    number = Beam.OUTWARD;
                    break;
                default:
                    digit = c - '0';
                    break;
            }
        }

        private void endMove() {
            if (moves < 0 || moves >= numbers.length || moves >= places.length) {
                return;
            }
            numbers[moves] = number;
            places[moves] = negative ? -digit : digit;
            moves++;
        }
    }
}
