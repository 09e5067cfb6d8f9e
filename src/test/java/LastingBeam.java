import java.util.ArrayList;
import java.util.List;
import java.util.function.ToIntFunction;

/**
 * A beam for tests that ask much. An object answers for 512 calls, and what later ones answer
 * is free: behind them this goes on with a new object, on which each call that could change
 * something was made again.
 */
final class LastingBeam implements Face {
    static final int PROMISED_CALLS = 512;

    private final List<ToIntFunction<TippingBeam>> changes = new ArrayList<>();
    private TippingBeam beam = new TippingBeam();
    private int calls;
    private boolean keepsAll;

    /** From now on each call is made again on a new object, also one that only tells. */
    void keepAll(boolean keepsAll) {
        this.keepsAll = keepsAll;
    }

    /** How many calls were made that could change something. */
    int changes() {
        return changes.size();
    }

    /** Another object on which the same calls were made. */
    LastingBeam copy() {
        LastingBeam copy = new LastingBeam();
        copy.changes.addAll(changes);
        copy.renew();
        return copy;
    }

    private void renew() {
        if (changes.size() >= PROMISED_CALLS) {
            throw new IllegalStateException("more calls than one object answers for");
        }
        beam = new TippingBeam();
        for (ToIntFunction<TippingBeam> change : changes) {
            change.applyAsInt(beam);
        }
        calls = changes.size();
    }

    private int ask(ToIntFunction<TippingBeam> call) {
        if (calls >= PROMISED_CALLS) {
            renew();
        }
        calls++;
        if (keepsAll) {
            changes.add(call);
        }
        return call.applyAsInt(beam);
    }

    private int change(ToIntFunction<TippingBeam> call) {
        int answer = ask(call);
        if (!keepsAll) {
            changes.add(call);
        }
        return answer;
    }

    @Override
    public int lay(int weight, int place) {
        return change(x -> x.lay(weight, place));
    }

    @Override
    public int push(int place, boolean inward) {
        return change(x -> x.push(place, inward));
    }

    @Override
    public int play(int depth) {
        return change(x -> x.play(depth));
    }

    @Override
    public int setBag(int side, int weight, int many) {
        return change(x -> x.setBag(side, weight, many));
    }

    @Override
    public int set(int which, int value) {
        return change(x -> x.set(which, value));
    }

    @Override
    public int setUp(int weight, int place) {
        return change(x -> x.setUp(weight, place));
    }

    @Override
    public int begin() {
        return change(TippingBeam::begin);
    }

    @Override
    public int type(char character) {
        return change(x -> x.type(character));
    }

    @Override
    public int clearText() {
        return change(TippingBeam::clearText);
    }

    @Override
    public int perform() {
        return change(TippingBeam::perform);
    }

    @Override
    public int stopped(int what) {
        return ask(x -> x.stopped(what));
    }

    @Override
    public int undo() {
        return change(TippingBeam::undo);
    }

    @Override
    public int keep() {
        return change(TippingBeam::keep);
    }

    @Override
    public int restore() {
        return change(TippingBeam::restore);
    }

    @Override
    public int at(int place, int what) {
        return ask(x -> x.at(place, what));
    }

    @Override
    public int bag(int side, int weight) {
        return ask(x -> x.bag(side, weight));
    }

    @Override
    public int reason(int number, int place) {
        return ask(x -> x.reason(number, place));
    }

    @Override
    public int possible(int rank) {
        return ask(x -> x.possible(rank));
    }

    @Override
    public int look(int depth) {
        return ask(x -> x.look(depth));
    }

    @Override
    public int best(int depth) {
        return ask(x -> x.best(depth));
    }

    @Override
    public int levels(int weight) {
        return ask(x -> x.levels(weight));
    }

    @Override
    public int made(int back, int what) {
        return ask(x -> x.made(back, what));
    }

    @Override
    public int count(int what) {
        return ask(x -> x.count(what));
    }
}
