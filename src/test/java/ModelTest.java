/** All promises: random runs of calls, each answered by the class and by the model. */
public final class ModelTest {
    private static final int RUNS = 1500;

    public static void main(String[] args) throws Exception {
        Check check = new Check();
        check.due("how many calls the face has", RandomCalls.face().size(), 34);
        for (int seed = 0; seed < RUNS; seed++) {
            SpeakHall hall = new SpeakHall();
            ModelHall model = new ModelHall();
            int n = 0;
            for (RandomCalls.Call call : RandomCalls.run(seed)) {
                check.due("seed " + seed + ", call " + ++n + ": " + call, call.on(hall), call.on(model));
            }
        }
        check.end();
    }
}
