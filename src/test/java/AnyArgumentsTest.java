import java.util.Random;

/** No call throws and every call ends, for any arguments in any state (rule 7 of LANGUAGE.md). */
public final class AnyArgumentsTest {
    private static final int[] STRANGE = {
        Integer.MIN_VALUE, Integer.MIN_VALUE + 1, -64, -3, -2, -1, 0, 1, 2, 3, 4, 11, 12, 19, 20, 21, 22, 63,
        Integer.MAX_VALUE - 1, Integer.MAX_VALUE
    };

    public static void main(String[] args) {
        long sum = 0;
        for (int seed = 0; seed < 60; seed++) {
            CommitGroups x = new CommitGroups();
            Random random = new Random(seed);
            // Far beyond 512 calls: the answers are free then, but a call must still come back.
            for (int call = 0; call < 20000; call++) {
                boolean strange = random.nextInt(3) == 0;
                sum += call(x, random.nextInt(21), random.nextBoolean(),
                        strange ? pick(random) : random.nextInt(21),
                        strange ? pick(random) : random.nextInt(3),
                        strange ? pick(random) : random.nextInt(12));
            }
        }
        System.out.println("every call came back (" + sum + ")");
    }

    private static int pick(Random random) {
        return STRANGE[random.nextInt(STRANGE.length)];
    }

    private static long call(CommitGroups x, int which, boolean back, int a, int b, int c) {
        return switch (which) {
            case 0 -> x.open();
            case 1, 20 -> x.touch(a, b, c, a) ? 1 : 0;
            case 2 -> x.prepare(a, b, back);
            case 3 -> x.decide(a, back);
            case 4 -> x.timeout(a, back);
            case 5 -> x.finish(a, b);
            case 6 -> x.vote(a, b);
            case 7 -> x.outcome(a);
            case 8 -> x.result(a, c);
            case 9 -> x.crash(c, b) ? 1 : 0;
            case 10 -> x.restart(c, b) ? 1 : 0;
            case 11 -> x.elect(c);
            case 12 -> x.halt() ? 1 : 0;
            case 13 -> x.resume() ? 1 : 0;
            case 14 -> x.leader(c);
            case 15 -> x.view(c, b);
            case 16 -> x.length(c, b);
            case 17 -> x.executed(c, b);
            case 18 -> x.value(c, b);
            default -> x.holds(c, b);
        };
    }
}
