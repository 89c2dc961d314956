import java.util.Random;

/**
 * "An object is used for at most 512 calls after it has been made": each of 512 calls answers what
 * it answers on a new object that has the same coefficients, whatever calls came before it.
 */
public final class ManyCallsTest {
    private static final int CALLS = 512;
    private static final Check CHECK = new Check();

    private static SturmDesk x;
    private static final int[][] GIVEN = new int[2][9];
    /** What OUT is due to be; null while it is empty. */
    private static String out;

    public static void main(String[] args) {
        int runs = args.length > 0 ? Integer.parseInt(args[0]) : 40;
        long seed = args.length > 1 ? Long.parseLong(args[1]) : 1;
        CHECK.sentence("An object is used for at most 512 calls after it has been made");
        for (int run = 0; run < runs && !CHECK.failed(); run++) {
            Random random = new Random(seed * 1000003 + run);
            begin();
            for (int k = 1; k <= CALLS; k++) {
                AnyCall call = new AnyCall(random);
                CHECK.dueText("run " + run + ", call " + k + ", " + call, call.on(x), due(call));
            }
        }
        CHECK.end("ManyCallsTest");
    }

    private static void begin() {
        x = new SturmDesk();
        out = null;
        for (int[] c : GIVEN) {
            java.util.Arrays.fill(c, 0);
        }
    }

    /** The answer that is due, which is then taken into account for the calls that come later. */
    private static String due(AnyCall call) {
        if (call.name == AnyCall.OUT) {
            boolean byteThere = out != null && call.number >= 0 && call.number < out.length();
            return byteThere ? Long.toString(Desks.eight(out, call.number)) : "java.util.NoSuchElementException";
        }
        if (call.name == AnyCall.PUT) {
            return putDue(call);
        }
        SturmDesk fresh = Desks.both(GIVEN[0], GIVEN[1]);
        String answer = call.on(fresh);
        if (call.name == AnyCall.FLOOR && !answer.startsWith("java")) {
            out = Desks.out(fresh);
        }
        return answer;
    }

    private static String putDue(AnyCall call) {
        boolean there = call.polynomial >= 0 && call.polynomial < 2 && call.number >= 0 && call.number < 9;
        if (!there) {
            return "java.lang.IllegalArgumentException";
        }
        GIVEN[call.polynomial][call.number] = call.value;
        return "0";
    }
}
