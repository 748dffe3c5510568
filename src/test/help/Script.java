import java.util.ArrayList;
import java.util.Arrays;
import java.util.List;

/**
 * Tests that are told as rows of text, each test on a new object:
 *
 *   "write 0 5 2 7 = 7"    a call, and the answer that is due (a number, or a name such as OUTSIDE);
 *   "write 0 5 2 7"        a call that must not be refused;
 *   "places 0 = 22: 0 . 3" SIZE of a FILE, then its BLOCKS from PLACE 0 on to the last, '.' for a HOLE;
 *   "cells 0 = 5*3 0"      all CELLS of a FILE, '*' and how often;
 *   "counts = 2*3 0*45"    the COUNTS of all BLOCKS.
 *
 * Several rows may stand in one text, with ';' between. Behind each call that is refused or only tells, all that calls
 * can tell must be as it was ahead of it: what is told now, the FAILURE, and what is told when it is MOUNTED.
 */
final class Script {
    private static final int[][] EVERYTHING = Calls.everything();
    private static int tests = 0;
    private static int wrong = 0;

    private final String name;
    private final List<int[]> calls = new ArrayList<>();
    private final CutFiles x = new CutFiles();
    /** How it lies behind the calls so far; null: not looked at yet. */
    private int[] state = null;

    private Script(String name) {
        this.name = name;
    }

    static void test(String name, String... rows) {
        tests++;
        Script script = new Script(name);
        for (String texts : rows) {
            for (String row : texts.split(";")) {
                script.row(row.trim());
            }
        }
    }

    static void end() {
        System.out.println(tests + " tests, " + wrong + " answers not as due");
        if (wrong != 0 || tests == 0) {
            System.exit(1);
        }
    }

    private void fault(String text) {
        wrong++;
        System.out.println(name + ": " + text);
    }

    private void due(String what, Object got, Object want) {
        if (!got.equals(want)) {
            fault(what + " answered " + got + ", due is " + want);
        }
    }

    private void row(String row) {
        String[] sides = row.split(" *= *");
        String[] words = sides[0].split(" +");
        switch (words[0]) {
            case "places" -> due(row, places(number(words[1])), sides[1]);
            case "cells" -> due(row, cells(number(words[1])), unfold(sides[1]));
            case "counts" -> due(row, counts(), unfold(sides[1]));
            default -> call(words, sides.length > 1 ? sides[1] : null);
        }
    }

    private void call(String[] words, String want) {
        int[] arguments = new int[words.length - 1];
        for (int i = 0; i < arguments.length; i++) {
            arguments[i] = number(words[i + 1]);
        }
        int[] call = Calls.call(words[0], arguments);
        int due = want == null ? 0 : number(want);
        boolean changesNothing = Calls.tells(call) || isRefusal(due);
        int[] before = changesNothing && state == null ? look() : state;
        int got = Calls.answer(x, call);
        calls.add(call);
        if (calls.size() > Calls.MOST) {
            throw new IllegalArgumentException(name + ": too many calls on one object");
        }
        if (want == null ? isRefusal(got) : got != due) {
            fault(Calls.text(call) + " answered " + got + ", due is " + (want == null ? "no refusal" : want));
        }
        state = changesNothing ? look() : null;
        if (changesNothing && !Arrays.equals(before, state)) {
            fault(Calls.text(call) + " changed something");
        }
    }

    private static boolean isRefusal(int answer) {
        return answer <= CutFiles.UNKNOWN && answer >= CutFiles.SPENT;
    }

    private static int number(String word) {
        return switch (word) {
            case "LOW" -> Integer.MIN_VALUE;
            case "HIGH" -> Integer.MAX_VALUE;
            case "UNKNOWN" -> -1;
            case "OUTSIDE" -> -2;
            case "STATE" -> -3;
            case "FULL" -> -4;
            case "SPENT" -> -6;
            case "NONE" -> -9;
            case "true" -> 1;
            case "false" -> 0;
            default -> Integer.parseInt(word);
        };
    }

    /** Looks at copies of the object, made by the same calls: so the looking is no part of its own 512 calls. */
    private int[] look() {
        List<Integer> seen = new ArrayList<>();
        lookBehind(calls, seen);
        boolean down = Calls.replay(calls).many(4) == 1;
        for (int forward = 0; down && forward < 2; forward++) {
            List<int[]> mounted = new ArrayList<>(calls);
            mounted.add(Calls.call("mount", forward));
            lookBehind(mounted, seen);
        }
        return seen.stream().mapToInt(Integer::intValue).toArray();
    }

    private static void lookBehind(List<int[]> run, List<Integer> seen) {
        for (int answer : Calls.answersBehind(run, EVERYTHING)) {
            seen.add(answer);
        }
        seen.add(Calls.replay(run).failure(CutFiles.NONE));
        seen.add(Calls.replay(run).mount(false));
        seen.add(Calls.replay(run).mount(true));
    }

    private String places(int f) {
        CutFiles y = Calls.replay(calls);
        StringBuilder text = new StringBuilder().append(y.ofFile(f, 0)).append(':');
        StringBuilder holes = new StringBuilder();
        for (int p = 0; p < 24; p++) {
            int b = y.block(f, p);
            if (b == CutFiles.NONE) {
                holes.append(" .");
            } else {
                text.append(holes).append(' ').append(b);
                holes.setLength(0);
            }
        }
        return text.toString();
    }

    private String cells(int f) {
        CutFiles y = Calls.replay(calls);
        List<Integer> cells = new ArrayList<>();
        int size = y.ofFile(f, 0);
        for (int i = 0; i < size; i++) {
            cells.add(y.read(f, i));
        }
        return cells.toString();
    }

    private String counts() {
        CutFiles y = Calls.replay(calls);
        List<Integer> counts = new ArrayList<>();
        for (int b = 0; b < 48; b++) {
            counts.add(y.count(b));
        }
        return counts.toString();
    }

    private static String unfold(String text) {
        List<Integer> row = new ArrayList<>();
        for (String part : text.split(" +")) {
            String[] sides = part.split("\\*");
            for (int i = 0; i < (sides.length > 1 ? number(sides[1]) : 1); i++) {
                row.add(number(sides[0]));
            }
        }
        return row.toString();
    }
}
