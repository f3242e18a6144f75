/**
 * Two worlds that are made alike, of which one has a call that must change nothing: all that both tell,
 * and all that they answer when things go on, is the same. A world has fewer than 512 calls by that.
 */
final class Twins {
    /** Makes a world, each time the same. */
    interface Making {
        KingTies made();
    }

    /** A call on a world. */
    interface CallOn {
        long answer(KingTies world);
    }

    private static final int MOST_ASKED = 12;
    private static final int MOST_MARRIED = 20;

    private final String name;
    private final KingTies had;
    private final KingTies never;

    private Twins(String name, Making making) {
        this.name = name;
        had = making.made();
        never = making.made();
    }

    static void refuseIndex(String name, Making making, CallOn call) {
        refuse(IndexOutOfBoundsException.class, name, making, call);
    }

    static void refuseArgument(String name, Making making, CallOn call) {
        refuse(IllegalArgumentException.class, name, making, call);
    }

    static void refuseState(String name, Making making, CallOn call) {
        refuse(IllegalStateException.class, name, making, call);
    }

    /** The call throws just this exception, and changes nothing. */
    private static void refuse(Class<?> due, String name, Making making, CallOn call) {
        answer(due.getName(), name, making, call);
    }

    /** The call answers just this, or throws what has this name, and changes nothing. */
    static void answer(String due, String name, Making making, CallOn call) {
        Twins twins = new Twins(name, making);
        Check.same(name, Check.outcome(() -> call.answer(twins.had)), due);
        twins.lookAlike();
        twins.goOnAlike();
    }

    private String both(String call, CallOn asked) {
        String due = Check.outcome(() -> asked.answer(never));
        Check.same(name + ", then " + call, Check.outcome(() -> asked.answer(had)), due);
        return due;
    }

    private void lookAlike() {
        both("digest()", KingTies::digest);
        Check.same(name + ", then mean()", had.mean(), never.mean());
        int persons = Math.min(never.count(1), MOST_ASKED);
        for (int one = 0; one < persons; one++) {
            int asked = one;
            both("rules(" + one + ")", x -> x.rules(asked));
            both("best(" + one + ")", x -> x.best(asked));
            for (int other = one; other < Math.min(persons, one + 6); other++) {
                int next = other;
                both("related(" + one + ", " + other + ")", x -> x.related(asked, next));
            }
        }
        for (int land = 0; land < never.count(4); land++) {
            int asked = land;
            both("foresee(1, " + land + ")", x -> x.foresee(1, asked));
            both("foresee(60, " + land + ")", x -> x.foresee(60, asked));
        }
    }

    private void goOnAlike() {
        int persons = never.count(1);
        for (int one = 0; one < persons; one++) {
            int asked = one;
            both("annul(" + one + ")", x -> x.annul(asked));
        }
        // A treaty that a refused call left behind would be told by the marriage that comes next.
        for (int one = 0; one < Math.min(persons, MOST_MARRIED); one++) {
            int asked = one;
            both("marry(" + one + ", best(" + one + "))", x -> x.marry(asked, x.best(asked), -1));
            both("annul(" + one + ") again", x -> x.annul(asked));
        }
        both("come(true, 16)", x -> x.come(true, 16));
        both("found(50, 3, -1)", x -> x.found(50, 3, -1));
        both("pass(1)", x -> x.pass(1));
        both("digest() a year later", KingTies::digest);
        both("pass(100)", x -> x.pass(100));
        both("digest() at the end", KingTies::digest);
    }
}
