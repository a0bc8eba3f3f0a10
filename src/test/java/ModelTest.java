/** Long mixed runs of calls: every answer and every throw is that of a model which only counts through lists. */
public final class ModelTest {
    private static final int OBJECTS = 400;
    private static final int CALLS = 512;
    private static final int[] SPREADS = {4, 40, 512, 100000};

    public static void main(String[] args) {
        Due due = new Due("against the model");
        for (int i = 0; i < OBJECTS; i++) {
            mixedRun(new Twins(due, SPREADS[i % SPREADS.length]));
        }
        due.end();
    }

    private static void mixedRun(Twins twins) {
        // Some runs start with a long row, others ask while it is short.
        int adds = Twins.next(3) == 0 ? Twins.next(400) : Twins.next(12);
        for (int call = 0; call < CALLS; call++) {
            if (call < adds) {
                twins.anyAdd();
            } else {
                twins.anyCall();
            }
        }
    }
}
