import java.util.Random;

/** All promises: long runs of calls, drawn from fixed seeds, against the model. */
public final class RandomRunsTest {
    private static final int RUNS = 60;
    private static final int CALLS = 470;
    private static final int[] EDGES = {
        -2, -1, 0, 1, 2, 3, 4, 5, 6, 11, 12, 13, 31, 32, 63, 64, 255, 256, 280, 281, 999, 1000, 1001,
        3328, 3329, 4000, 4001, Integer.MIN_VALUE, Integer.MAX_VALUE
    };

    private final Due due = new Due("RandomRunsTest");
    private Random random;
    private Run run;

    public static void main(String[] args) {
        RandomRunsTest test = new RandomRunsTest();
        for (int seed = 0; seed < RUNS; seed++) {
            test.go(seed);
        }
        test.due.finish();
    }

    private void go(int seed) {
        random = new Random(seed);
        run = new Run(due, "run " + seed);
        run.choose(2 + seed % 3);
        while (run.callsLeft() > 512 - CALLS) {
            if (random.nextInt(3) == 0) {
                work();
            } else {
                call();
            }
        }
        run.lookAtAll();
    }

    private int any() {
        return EDGES[random.nextInt(EDGES.length)];
    }

    /** Mostly one that is meant, else any. */
    private int of(int count) {
        return random.nextInt(12) == 0 ? any() : random.nextInt(count);
    }

    private int between(int low, int high) {
        return low + of(high - low + 1);
    }

    private void call() {
        switch (random.nextInt(24)) {
            case 0 -> run.feed(random.nextInt(), random.nextInt(), any(), any(), random.nextInt());
            case 1 -> run.end(random.nextInt(6) == 0 ? of(64) : any());
            case 2 -> run.take(of(5));
            case 3 -> run.alter(of(70), random.nextInt());
            case 4 -> run.choose(random.nextInt(8) == 0 ? between(2, 4) : any() | 64);
            case 5 -> run.bound(random.nextInt(4) == 0 ? between(150, 175) : 280);
            case 6 -> run.length(of(6));
            case 7 -> run.at(of(6), of(3200));
            case 8 -> run.make();
            case 9 -> run.load(of(3));
            case 10 -> run.wrap();
            case 11 -> run.unwrap();
            case 12 -> run.hash(of(4), random.nextInt(3) == 0 ? any() : random.nextInt(1001));
            case 13 -> run.put(of(4), of(256), random.nextInt());
            case 14 -> run.number(of(4), of(256));
            case 15 -> run.forward(of(4));
            case 16 -> run.back(of(4));
            case 17 -> run.pairs(of(4), of(4), of(4));
            case 18 -> run.add(of(4), of(4), random.nextBoolean() ? 1 : between(-1, 1));
            case 19 -> run.press(of(4), between(1, 11));
            case 20 -> run.stretch(of(4), between(1, 11));
            case 21 -> run.encode(of(4), between(1, 12));
            case 22 -> run.sample(of(4), any(), any());
            default -> run.noise(of(4), between(2, 3), any());
        }
    }

    /** A few calls that belong together and would hardly ever meet by chance. */
    private void work() {
        switch (random.nextInt(9)) {
            case 0 -> {
                fresh(64);
                run.make();
            }
            case 1 -> {
                fresh(32);
                run.wrap();
            }
            case 2 -> run.unwrap();
            case 3 -> {
                int what = random.nextInt(3);
                run.take(what);
                if (random.nextBoolean()) {
                    run.alter(random.nextInt(3200), random.nextInt());
                }
                run.load(what);
            }
            case 4 -> {
                fresh(32);
                run.sample(random.nextInt(4), random.nextInt(), random.nextInt());
            }
            case 5 -> {
                fresh(32);
                run.noise(random.nextInt(4), 2 + random.nextInt(2), random.nextInt());
            }
            case 6 -> {
                int d = 1 + random.nextInt(12);
                run.encode(random.nextInt(4), d);
                run.take(4);
                run.decode(random.nextInt(4), d);
            }
            case 7 -> {
                int d = 1 + random.nextInt(12);
                fresh(random.nextInt(100));
                run.hash(2 + random.nextInt(2), 32 * d);
                run.take(4);
                run.decode(random.nextInt(4), d);
            }
            default -> {
                fresh(random.nextInt(100));
                run.hash(random.nextInt(4), random.nextInt(1001));
            }
        }
    }

    private void fresh(int count) {
        byte[] row = new byte[count];
        random.nextBytes(row);
        run.end(0);
        run.bytes(row);
    }
}
