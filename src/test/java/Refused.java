import java.util.LinkedHashSet;
import java.util.Set;
import java.util.function.Supplier;

/** Calls that are refused: what they answer, and that they change nothing. */
final class Refused {
    interface Call {
        long on(HungryJury x);
    }

    interface CallWith {
        long on(HungryJury x, int argument);
    }

    private Refused() {
    }

    /** The call answers the refusal, and behind it all is as on an object that it was not called on. */
    static void is(String what, Supplier<HungryJury> start, Call call, int refusal) {
        HungryJury x = start.get();
        Due.is(what, call.on(x), refusal);
        Due.same("all that there is behind the refused " + what, wholeOf(x), wholeOf(start.get()));
    }

    /** The call is refused so with every argument below the least and above the greatest one, in every state. */
    static void beyond(String what, CallWith call, int least, int greatest, int refusal) {
        for (Supplier<HungryJury> start : Start.all()) {
            beyond(what, start, call, least, greatest, refusal);
        }
    }

    static void beyond(String what, Supplier<HungryJury> start, CallWith call, int least, int greatest,
            int refusal) {
        for (int argument : argumentsBeyond(least, greatest)) {
            is(what + " " + argument, start, x -> call.on(x, argument), refusal);
        }
    }

    /** The call is not refused so with any of these arguments, in any state. */
    static void never(String what, CallWith call, int refusal, int... arguments) {
        for (Supplier<HungryJury> start : Start.all()) {
            for (int argument : arguments) {
                long answer = call.on(start.get(), argument);
                Due.that(what + " " + argument + " is not refused by " + refusal, answer != refusal);
            }
        }
    }

    /** One beyond, a little more, far beyond, and such as would be allowed if their upper bits were lost. */
    private static Set<Integer> argumentsBeyond(int least, int greatest) {
        long[] told = {least - 1L, greatest + 1L, least - 2L, greatest + 2L, least - 10L, greatest + 10L, -9, 9,
            least - 256L, greatest + 256L, least + 65536L, greatest + 65536L, least - (1L << 31),
            greatest + (1L << 30), Integer.MIN_VALUE, Integer.MIN_VALUE + 1, Integer.MAX_VALUE - 1,
            Integer.MAX_VALUE};
        Set<Integer> beyond = new LinkedHashSet<>();
        for (long argument : told) {
            boolean isInt = argument >= Integer.MIN_VALUE && argument <= Integer.MAX_VALUE;
            if (isInt && (argument < least || argument > greatest)) {
                beyond.add((int) argument);
            }
        }
        return beyond;
    }

    /** All that an object holds, THE SEED, the acts and the slots too; reading them changes it. */
    static String wholeOf(HungryJury x) {
        StringBuilder told = new StringBuilder(Due.stateOf(x)).append(" seed ").append(x.seed(0));
        for (int left = x.count(7); left > 0; left--) {
            told.append("\n undo ").append(x.undo()).append(' ').append(roomOf(x));
        }
        told.append("\n undo ").append(x.undo());
        for (int slot = 0; slot < 2; slot++) {
            told.append("\n again ").append(x.again(slot)).append(' ').append(roomOf(x));
        }
        return told.append("\n jury ").append(x.jury()).append(' ').append(Due.stateOf(x)).toString();
    }

    /** Who of those there is for what, how stubborn and how hungry each one is, the hour; and what is seen of it. */
    static String roomOf(HungryJury x) {
        StringBuilder told = new StringBuilder().append(x.count(3));
        told.append(' ').append(x.count(4)).append(' ').append(x.count(5));
        int jurors = x.count(1);
        for (int i = 0; i < jurors; i++) {
            told.append(" |").append(x.juror(i, 1)).append(' ').append(x.juror(i, 3));
        }
        return told.append(" s").append(x.first(0)).toString();
    }
}
