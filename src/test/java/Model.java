import java.util.ArrayDeque;
import java.util.ArrayList;
import java.util.List;
import java.util.regex.Matcher;
import java.util.regex.Pattern;

/**
 * A second program of the same document, written as plainly as can be: it copies its state
 * for every move that it tries, looks at every move, and reckons each number anew.
 */
final class Model implements Face {
    private static final Pattern MOVE = Pattern.compile("([1-5])@(-?[1-6])|(-?[1-6])([io])");

    /** A move: a number as for reason(), and a place. */
    record Move(int number, int place) {
        int told() {
            return 100 * number + place + 50;
        }
    }

    record Made(int side, int number, int place, int told) {
        int part(int what) {
            return new int[] {side, number, place, told}[what];
        }
    }

    static final class State {
        final List<List<Integer>> places = new ArrayList<>();
        final int[][] bags = {{0, 2, 2, 2, 2, 2}, {0, 2, 2, 2, 2, 2}};
        final int[] settings = {2, 8, 0, 0};
        List<Made> made = new ArrayList<>();
        int side;
        int setUp;
        int greatest;
        // The place to which the latest move moved a token; 0 if it was none, or a laying.
        int justMovedTo;

        State() {
            for (int place = -6; place <= 6; place++) {
                places.add(new ArrayList<>());
            }
        }

        State copy() {
            State s = new State();
            for (int i = 0; i < places.size(); i++) {
                s.places.get(i).addAll(places.get(i));
            }
            for (int i = 0; i < 2; i++) {
                System.arraycopy(bags[i], 0, s.bags[i], 0, 6);
            }
            System.arraycopy(settings, 0, s.settings, 0, 4);
            s.made = new ArrayList<>(made);
            s.side = side;
            s.setUp = setUp;
            s.greatest = greatest;
            s.justMovedTo = justMovedTo;
            return s;
        }

        List<Integer> on(int place) {
            return places.get(place + 6);
        }

        int turn() {
            int turn = 0;
            for (int place = -6; place <= 6; place++) {
                for (int weight : on(place)) {
                    turn += weight * place;
                }
            }
            return turn;
        }

        int tokens() {
            return places.stream().mapToInt(List::size).sum();
        }

        int weights() {
            return places.stream().flatMap(List::stream).mapToInt(w -> w).sum();
        }

        int inBag(int side) {
            int sum = 0;
            for (int many : bags[side]) {
                sum += many;
            }
            return sum;
        }

        int result() {
            if (Math.abs(turn()) > settings[1]) {
                int tipper = made.isEmpty() ? 1 : made.get(made.size() - 1).side();
                int winner = settings[3] == 0 ? 1 - tipper : tipper;
                return winner == 0 ? 1 : 2;
            }
            return inBag(0) + inBag(1) == 0 ? 3 : 0;
        }

        int target(Move move) {
            switch (move.number()) {
                case 6:
                    return move.place() == 1 ? -1 : move.place() == -1 ? 1
                            : move.place() - Integer.signum(move.place());
                case 7:
                    return move.place() + Integer.signum(move.place());
                default:
                    return move.place();
            }
        }

        int reason(Move move) {
            if (result() != 0) {
                return 1;
            }
            if (move.number() <= 5 ? bags[side][move.number()] == 0 : settings[2] == 0) {
                return 2;
            }
            if (move.number() > 5 && (on(move.place()).isEmpty() || justMovedTo == move.place())) {
                return 3;
            }
            int target = target(move);
            return Math.abs(target) > 6 || on(target).size() >= settings[0] ? 4 : 0;
        }

        void make(Move move) {
            int before = turn();
            if (move.number() <= 5) {
                bags[side][move.number()]--;
                on(move.place()).add(move.number());
                justMovedTo = 0;
            } else {
                List<Integer> from = on(move.place());
                on(target(move)).add(from.remove(from.size() - 1));
                justMovedTo = target(move);
            }
            made.add(new Made(side, move.number(), move.place(), turn() - before));
            greatest = Math.max(greatest, Math.abs(turn()));
            boolean leftOut = inBag(1 - side) == 0 && settings[2] == 0;
            if (!leftOut || inBag(side) == 0) {
                side = 1 - side;
            }
        }

        State behind(Move move) {
            State s = copy();
            s.make(move);
            return s;
        }

        List<Move> possible() {
            List<Move> moves = new ArrayList<>();
            for (int weight = 1; weight <= 5; weight++) {
                for (int place = -6; place <= 6; place++) {
                    addIfPossible(moves, weight, place);
                }
            }
            for (int place = -6; place <= 6; place++) {
                addIfPossible(moves, 6, place);
                addIfPossible(moves, 7, place);
            }
            return moves;
        }

        private void addIfPossible(List<Move> moves, int number, int place) {
            Move move = new Move(number, place);
            if (place != 0 && reason(move) == 0) {
                moves.add(move);
            }
        }

        int look(int depth) {
            int result = result();
            if (result != 0) {
                return result == 3 ? 0 : result == side + 1 ? 1 : -1;
            }
            if (depth == 0) {
                return 0;
            }
            List<Move> moves = possible();
            if (moves.isEmpty()) {
                return 0;
            }
            int greatest = -1;
            for (Move move : moves) {
                greatest = Math.max(greatest, lookBehind(move, depth));
            }
            return greatest;
        }

        private int lookBehind(Move move, int depth) {
            State behind = behind(move);
            int told = behind.look(depth - 1);
            return behind.side == side ? told : -told;
        }

        Move best(int depth) {
            Move best = null;
            int bestValue = 0;
            int bestTurn = 0;
            for (Move move : possible()) {
                int value = lookBehind(move, depth);
                int turn = Math.abs(behind(move).turn());
                if (best == null || value > bestValue || (value == bestValue && turn < bestTurn)) {
                    best = move;
                    bestValue = value;
                    bestTurn = turn;
                }
            }
            return best;
        }
    }

    State now = new State();
    private final ArrayDeque<State> history = new ArrayDeque<>();
    private State snapshot;
    private String text = "";
    private int[] stop;

    private void act(State then) {
        history.addLast(now);
        if (history.size() > 4) {
            history.removeFirst();
        }
        now = then;
    }

    private static boolean noPlace(int place) {
        return place < -6 || place > 6 || place == 0;
    }

    private static boolean noWeight(int weight) {
        return weight < 1 || weight > 5;
    }

    private static boolean noSide(int side) {
        return side < 0 || side > 1;
    }

    @Override
    public int lay(int weight, int place) {
        return noWeight(weight) || noPlace(place) ? -10001 : move(new Move(weight, place));
    }

    @Override
    public int push(int place, boolean inward) {
        return noPlace(place) ? -10001 : move(new Move(inward ? 6 : 7, place));
    }

    private int move(Move move) {
        int reason = now.reason(move);
        if (reason > 0) {
            return -10010 - reason;
        }
        act(now.behind(move));
        return now.turn();
    }

    @Override
    public int play(int depth) {
        if (depth < 1 || depth > 3) {
            return -10002;
        }
        Move best = now.best(depth);
        return best == null ? -10004 : move(best);
    }

    @Override
    public int setBag(int side, int weight, int many) {
        if (noSide(side) || noWeight(weight)) {
            return -10001;
        }
        if (many < 0 || many > 6) {
            return -10002;
        }
        int before = now.bags[side][weight];
        if (before == many) {
            return -10005;
        }
        State then = now.copy();
        then.bags[side][weight] = many;
        act(then);
        return before;
    }

    @Override
    public int set(int which, int value) {
        if (which < 0 || which > 3) {
            return -10001;
        }
        int[][] ranges = {{1, 4}, {0, 40}, {0, 1}, {0, 1}};
        if (value < ranges[which][0] || value > ranges[which][1]) {
            return -10002;
        }
        int before = now.settings[which];
        if (before == value) {
            return -10005;
        }
        State then = now.copy();
        then.settings[which] = value;
        act(then);
        return before;
    }

    @Override
    public int setUp(int weight, int place) {
        if (noWeight(weight) || noPlace(place)) {
            return -10001;
        }
        if (now.on(place).size() >= now.settings[0]) {
            return -10003;
        }
        State then = now.copy();
        then.on(place).add(weight);
        then.setUp += weight * place;
        act(then);
        return now.turn();
    }

    @Override
    public int begin() {
        int tokens = now.tokens();
        State then = new State();
        for (int side = 0; side < 2; side++) {
            System.arraycopy(now.bags[side], 0, then.bags[side], 0, 6);
        }
        System.arraycopy(now.settings, 0, then.settings, 0, 4);
        act(then);
        return tokens;
    }

    @Override
    public int type(char character) {
        if (text.length() == 60) {
            return -10003;
        }
        text += character;
        return text.length();
    }

    @Override
    public int clearText() {
        int length = text.length();
        text = "";
        return length;
    }

    @Override
    public int perform() {
        int fault = fault();
        if (fault >= 0) {
            return -10100 - fault;
        }
        State then = now.copy();
        int number = 0;
        for (String word : text.split(";")) {
            Matcher m = MOVE.matcher(word);
            if (!m.matches()) {
                throw new IllegalStateException(text);
            }
            Move move = m.group(1) != null
                    ? new Move(Integer.parseInt(m.group(1)), Integer.parseInt(m.group(2)))
                    : new Move(m.group(4).equals("i") ? 6 : 7, Integer.parseInt(m.group(3)));
            int reason = then.reason(move);
            if (reason != 0) {
                stop = new int[] {number, reason};
                return -10004;
            }
            then.make(move);
            number++;
        }
        act(then);
        return number;
    }

    /** The length of the longest beginning of the text that could go on to be a text of moves. */
    private int fault() {
        if (isWhole(text)) {
            return -1;
        }
        int length = 0;
        while (length < text.length() && canGoOn(text.substring(0, length + 1))) {
            length++;
        }
        return length;
    }

    private static boolean isWhole(String text) {
        String move = "([1-5]@-?[1-6]|-?[1-6][io])";
        return text.matches("(?s)" + move + "(;" + move + ")*");
    }

    private static boolean canGoOn(String beginning) {
        for (String rest : new String[] {"", "1@1", "@1", "1", "i", "1i"}) {
            if (isWhole(beginning + rest)) {
                return true;
            }
        }
        return false;
    }

    @Override
    public int stopped(int what) {
        if (what < 0 || what > 1) {
            return -10002;
        }
        return stop == null ? -10005 : stop[what];
    }

    @Override
    public int undo() {
        if (history.isEmpty()) {
            return -10005;
        }
        now = history.removeLast();
        return history.size();
    }

    @Override
    public int keep() {
        snapshot = now;
        return now.tokens();
    }

    @Override
    public int restore() {
        if (snapshot == null) {
            return -10005;
        }
        act(snapshot);
        return now.tokens();
    }

    @Override
    public int at(int place, int what) {
        if (noPlace(place)) {
            return -10001;
        }
        List<Integer> on = now.on(place);
        int weights = on.stream().mapToInt(w -> w).sum();
        switch (what) {
            case 0:
                return on.size();
            case 1:
                return weights;
            case 2:
                return on.isEmpty() ? -10005 : on.get(on.size() - 1);
            case 3:
                return weights * place;
            default:
                return -10002;
        }
    }

    @Override
    public int bag(int side, int weight) {
        if (noSide(side) || weight < 0 || weight > 5) {
            return -10001;
        }
        return weight == 0 ? now.inBag(side) : now.bags[side][weight];
    }

    @Override
    public int reason(int number, int place) {
        if (number < 1 || number > 7) {
            return -10002;
        }
        return noPlace(place) ? -10001 : now.reason(new Move(number, place));
    }

    @Override
    public int possible(int rank) {
        if (rank < 0) {
            return -10002;
        }
        List<Move> moves = now.possible();
        return rank >= moves.size() ? -10005 : moves.get(rank).told();
    }

    @Override
    public int look(int depth) {
        return depth < 0 || depth > 3 ? -10002 : now.look(depth);
    }

    @Override
    public int best(int depth) {
        if (depth < 1 || depth > 3) {
            return -10002;
        }
        Move best = now.best(depth);
        return best == null ? -10005 : best.told();
    }

    @Override
    public int levels(int weight) {
        if (noWeight(weight)) {
            return -10001;
        }
        int turn = now.turn();
        int place = -turn / weight;
        if (turn % weight != 0 || noPlace(place) || now.on(place).size() >= now.settings[0]) {
            return -10005;
        }
        return place;
    }

    @Override
    public int made(int back, int what) {
        if (back < 0 || what < 0 || what > 3) {
            return -10002;
        }
        if (back >= 40 || back >= now.made.size()) {
            return -10005;
        }
        return now.made.get(now.made.size() - 1 - back).part(what);
    }

    @Override
    public int count(int what) {
        switch (what) {
            case 0:
                return now.side;
            case 1:
                return now.turn();
            case 2:
                return now.result();
            case 3:
                return now.made.size();
            case 4:
                return now.made.stream().mapToInt(Made::told).sum();
            case 5:
                return now.setUp;
            case 6:
                return now.tokens();
            case 7:
                return now.weights();
            case 8:
                return now.possible().size();
            case 9:
                return (int) now.possible().stream()
                        .filter(m -> Math.abs(now.behind(m).turn()) <= now.settings[1]).count();
            case 10:
                return now.greatest;
            case 11:
                return now.settings[0];
            case 12:
                return now.settings[1];
            case 13:
                return now.settings[2];
            case 14:
                return now.settings[3];
            case 15:
                return history.size();
            case 16:
                return text.length();
            default:
                return -10002;
        }
    }
}
