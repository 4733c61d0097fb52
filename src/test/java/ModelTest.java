/** All promises: random runs of calls, good ones and wrong ones, answered as the slow Model answers. */
public final class ModelTest {
    private static final int RUNS = 1500;
    private static final int STEPS = 60;

    public static void main(String[] args) {
        for (int seed = 0; seed < RUNS; seed++) {
            RandomRun run = new RandomRun(seed);
            run.go(STEPS, 1);
            run.twins.end("run " + seed);
            if (run.twins.isWrong()) {
                break;
            }
        }
        Check.end("ModelTest");
    }
}
