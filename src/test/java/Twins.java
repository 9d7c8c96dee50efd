import java.util.function.Supplier;
import java.util.function.ToLongFunction;

/**
 * Two objects led to one state by the same calls. What a call has changed is told by the twin that was not
 * called: all that shows, and all that does not (acts, what is sworn, what is kept, THE SEED, THE TEXT), is asked
 * of both. To ask for what does not show uses an object up, so each question has twins of its own; state and
 * questions together stay under the document's 512 calls.
 */
final class Twins {
    private static final int MORE_UNDONE_THAN_ACTS = 16;

    private Twins() {
    }

    /** A call that is to be refused: its answer, and that nothing is changed by it. */
    static void refused(String call, Supplier<SpikeTown> state, ToLongFunction<SpikeTown> asked, long want) {
        SpikeTown x = state.get();
        Check.due(call, asked.applyAsLong(x), want);
        Check.dueText(call + " is refused, all then", depthOf(x), depthOf(state.get()));
    }

    /** A call that is answered and by which nothing becomes another. */
    static void unchanged(String call, Supplier<SpikeTown> state, ToLongFunction<SpikeTown> asked) {
        SpikeTown x = state.get();
        asked.applyAsLong(x);
        Check.dueText(call + " changes nothing, all then", depthOf(x), depthOf(state.get()));
    }

    /** A call that is to be done: its answer, and that something is another then. */
    static void done(String call, Supplier<SpikeTown> state, ToLongFunction<SpikeTown> asked, long want) {
        SpikeTown x = state.get();
        Check.due(call, asked.applyAsLong(x), want);
        Check.holds(call + " changes something", !depthOf(x).equals(depthOf(state.get())));
    }

    /** All of an object; what is asked of it later is of no use. */
    private static String depthOf(SpikeTown x) {
        StringBuilder depth = new StringBuilder(Check.pictureOf(x));
        depth.append(" may ").append(x.may(0)).append(' ').append(x.may(1));
        int left = x.undo();
        for (int i = 0; i < MORE_UNDONE_THAN_ACTS && left >= 0; i++) {
            depth.append(" act ").append(left).append(placesIn(x));
            left = x.undo();
        }
        for (int slot = 0; slot < 2; slot++) {
            depth.append(" slot ").append(x.again(slot)).append(placesIn(x));
        }
        depth.append(" seed ").append(x.seed(0)).append(" town ").append(x.town()).append(placesIn(x));
        for (int thing = 0; thing < 6; thing++) {
            for (int what = 0; what < 4; what++) {
                depth.append(' ').append(x.thing(thing, what));
            }
        }
        return depth.append(" may ").append(x.may(0)).append(' ').append(x.may(1)).toString();
    }

    private static String placesIn(SpikeTown x) {
        StringBuilder places = new StringBuilder();
        for (int slip = 0; slip < 8; slip++) {
            places.append(' ').append(x.slip(slip, 0)).append('/').append(x.slip(slip, 1));
        }
        return places.append(" gone ").append(x.about(4)).append(" night ").append(x.about(1)).toString();
    }
}
