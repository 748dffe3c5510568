import java.util.ArrayList;
import java.util.List;

/** Calls as rows of numbers: which one (its index in NAMES), then up to five arguments; a truth is 1, else false. */
final class Calls {
    /** The document says nothing of later calls on one object, so no test asks for more. */
    static final int MOST = 512;

    private static final String[] NAMES = {"read", "write", "cut", "punch", "collapse", "insert", "share", "unshare",
        "failure", "exchange", "mount", "ofFile", "block", "piece", "seek", "count", "range", "many"};
    private static final int[] ARGUMENTS = {2, 4, 2, 3, 3, 3, 5, 3, 1, 5, 1, 2, 2, 3, 3, 1, 2, 1};
    /** What each call may answer below 0, as its line of the document tells. */
    static final int[][] TOLD = {{-1, -2}, {-1, -2, -3, -6}, {-1, -2, -3, -6}, {-1, -2, -3, -6}, {-1, -2, -3},
        {-1, -2, -3, -4}, {-1, -2, -3}, {-1, -2, -3, -6}, {-2, -3, -9}, {-1, -2, -3}, {-3}, {-1, -2}, {-1, -2, -9},
        {-1, -2, -9}, {-1, -2, -9}, {-2}, {-2, -9}, {-2}};
    private static final int MOUNT = 10;
    private static final int SEEK = 14;

    private Calls() {
    }

    static int kind(String name) {
        for (int kind = 0; kind < NAMES.length; kind++) {
            if (NAMES[kind].equals(name)) {
                return kind;
            }
        }
        throw new IllegalArgumentException("there is no call " + name);
    }

    static String name(int kind) {
        return NAMES[kind];
    }

    static int[] call(String name, int... arguments) {
        int kind = kind(name);
        if (arguments.length != ARGUMENTS[kind]) {
            throw new IllegalArgumentException(name + " takes " + ARGUMENTS[kind] + " arguments");
        }
        int[] call = new int[6];
        call[0] = kind;
        System.arraycopy(arguments, 0, call, 1, arguments.length);
        return call;
    }

    /** Whether a call only tells something, so that it changes nothing whatever it answers. */
    static boolean tells(int[] call) {
        return call[0] == 0 || call[0] > MOUNT;
    }

    static int answer(CutFiles x, int[] c) {
        return switch (c[0]) {
            case 0 -> x.read(c[1], c[2]);
            case 1 -> x.write(c[1], c[2], c[3], c[4]);
            case 2 -> x.cut(c[1], c[2]);
            case 3 -> x.punch(c[1], c[2], c[3]);
            case 4 -> x.collapse(c[1], c[2], c[3]);
            case 5 -> x.insert(c[1], c[2], c[3]);
            case 6 -> x.share(c[1], c[2], c[3], c[4], c[5]);
            case 7 -> x.unshare(c[1], c[2], c[3]);
            case 8 -> x.failure(c[1]);
            case 9 -> x.exchange(c[1], c[2], c[3], c[4], c[5]);
            case MOUNT -> x.mount(c[1] == 1);
            case 11 -> x.ofFile(c[1], c[2]);
            case 12 -> x.block(c[1], c[2]);
            case 13 -> x.piece(c[1], c[2], c[3]);
            case SEEK -> x.seek(c[1], c[2], c[3] == 1);
            case 15 -> x.count(c[1]);
            case 16 -> x.range(c[1], c[2]);
            default -> x.many(c[1]);
        };
    }

    static String text(int[] call) {
        StringBuilder text = new StringBuilder(NAMES[call[0]]).append('(');
        for (int i = 1; i <= ARGUMENTS[call[0]]; i++) {
            boolean truth = call[0] == MOUNT || call[0] == SEEK && i == 3;
            text.append(i == 1 ? "" : ", ").append(truth ? String.valueOf(call[i] == 1) : String.valueOf(call[i]));
        }
        return text.append(')').toString();
    }

    static CutFiles replay(List<int[]> calls) {
        CutFiles x = new CutFiles();
        for (int[] call : calls) {
            answer(x, call);
        }
        return x;
    }

    /** Answers of many calls that only tell, each behind the same run; on as many objects as that takes. */
    static int[] answersBehind(List<int[]> run, int[][] asked) {
        if (run.size() >= MOST) {
            throw new IllegalArgumentException("the run leaves no call to ask");
        }
        int[] answers = new int[asked.length];
        CutFiles x = null;
        int left = 0;
        for (int i = 0; i < asked.length; i++) {
            if (left == 0) {
                x = replay(run);
                left = MOST - run.size();
            }
            answers[i] = answer(x, asked[i]);
            left--;
        }
        return answers;
    }

    /** All that calls can tell without a change. */
    static int[][] everything() {
        List<int[]> calls = new ArrayList<>();
        for (int f = 0; f < 4; f++) {
            for (int i = 0; i <= 96; i++) {
                calls.add(call("read", f, i));
                calls.add(call("seek", f, i, 0));
                calls.add(call("seek", f, i, 1));
            }
            for (int what = 0; what < 4; what++) {
                calls.add(call("ofFile", f, what));
            }
            for (int k = 0; k < 24; k++) {
                calls.add(call("block", f, k));
                for (int what = 0; what < 3; what++) {
                    calls.add(call("piece", f, k, what));
                }
            }
        }
        for (int b = 0; b < 48; b++) {
            calls.add(call("count", b));
            for (int what = 0; what < 5; what++) {
                calls.add(call("range", b, what));
            }
        }
        for (int what = 0; what < 6; what++) {
            calls.add(call("many", what));
        }
        return calls.toArray(new int[0][]);
    }
}
