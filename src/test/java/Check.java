/** Counts the answers that are not due, prints each, and ends a test with exit code 1 if there was one. */
final class Check {
    /** A call of the class under test. */
    interface Call {
        long answer();
    }

    private static int wrong = 0;
    private static int checks = 0;

    private Check() {
    }

    static void same(String call, long got, long due) {
        checks++;
        if (got != due) {
            tellWrong(call + " answered " + got + ", due is " + due);
        }
    }

    static void same(String call, double got, double due) {
        checks++;
        if (got != due) {
            tellWrong(call + " answered " + got + ", due is " + due);
        }
    }

    static void same(String call, String got, String due) {
        checks++;
        if (!got.equals(due)) {
            tellWrong(call + " answered " + got + ", due is " + due);
        }
    }

    static void fails(String text) {
        checks++;
        tellWrong(text);
    }

    /** The call throws just this exception, and the world is as it was. */
    static void refuses(KingTies world, String name, Class<?> due, Call call) {
        long before = world.digest();
        same(name, outcome(call), due.getName());
        same(name + " leaves the digest", world.digest(), before);
    }

    static void refusesIndex(KingTies world, String name, Call call) {
        refuses(world, name, IndexOutOfBoundsException.class, call);
    }

    static void refusesArgument(KingTies world, String name, Call call) {
        refuses(world, name, IllegalArgumentException.class, call);
    }

    static void refusesState(KingTies world, String name, Call call) {
        refuses(world, name, IllegalStateException.class, call);
    }

    /** What the call answers, or the name of what it throws: of a subclass too, which would be none of ours. */
    static String outcome(Call call) {
        try {
            return Long.toString(call.answer());
        } catch (RuntimeException e) {
            return e.getClass().getName();
        }
    }

    static int wrong() {
        return wrong;
    }

    static void end() {
        System.out.println(wrong == 0 ? checks + " answers are as due" : wrong + " of " + checks + " answers are not as due");
        if (wrong != 0) {
            System.exit(1);
        }
    }

    private static void tellWrong(String text) {
        wrong++;
        if (wrong <= 50) {
            System.out.println(text);
        }
    }
}
