import java.util.ArrayList;
import java.util.List;
import java.util.Random;

/** Runs of 512 calls of chance, from fixed seeds: the same seed always gives the same run. */
final class Chance {
    static final int KINDS_OF_RUNS = 4;

    private static final int[] WILD = {Integer.MIN_VALUE, -10, -9, -1, 0, 1, 4, 23, 24, 25, 47, 48, 95, 96, 97, 256,
        Integer.MAX_VALUE - 1, Integer.MAX_VALUE};

    private final Random chance;
    private final int kind;

    private Chance(int seed) {
        chance = new Random(seed);
        kind = seed % KINDS_OF_RUNS;
    }

    /**
     * Of four kinds of runs the first has short ranges, the second any, the third cuts, punches and collapses but
     * little, so that its disk is soon full, and the last begins with a full disk, half or more of it shared.
     */
    static List<int[]> run(int seed) {
        Chance made = new Chance(seed);
        List<int[]> calls = new ArrayList<>();
        if (made.kind == 3) {
            made.fillTheDisk(calls);
        }
        while (calls.size() < Calls.MOST) {
            calls.add(made.call());
        }
        return calls;
    }

    private void fillTheDisk(List<int[]> calls) {
        int f = chance.nextInt(4);
        int g = (f + 1 + chance.nextInt(3)) % 4;
        calls.add(Calls.call("write", f, 0, 96, chance.nextInt(256)));
        calls.add(Calls.call("write", g, 0, 96, chance.nextInt(256)));
        for (int h = 0; h < 4; h++) {
            if (h != f && h != g) {
                calls.add(Calls.call("share", chance.nextBoolean() ? f : g, 0, h, 0, 24));
            }
        }
    }

    private int[] call() {
        int name = chance.nextInt(18);
        int[] c = {name, 0, 0, 0, 0, 0};
        int f = chance.nextInt(4);
        int at = chance.nextInt(96);
        int p = chance.nextInt(24);
        int q = chance.nextInt(24);
        boolean full = kind >= 2;
        int cells = 1 + chance.nextInt(kind == 0 ? Math.min(12, 96 - at) : 96 - at);
        int places = 1 + chance.nextInt(kind == 0 ? Math.min(3, 24 - p) : 24 - p);
        int both = 1 + chance.nextInt(24 - Math.max(p, q));
        switch (name) {
            case 1 -> set(c, f, at, cells, chance.nextInt(256));
            case 2 -> set(c, f, full ? 70 + chance.nextInt(27) : chance.nextInt(97));
            case 3 -> set(c, f, at, full ? Math.min(cells, 7) : cells);
            case 4 -> set(c, f, p, full ? 1 : places);
            case 5 -> set(c, f, p, 1 + chance.nextInt(4));
            case 6, 9 -> set(c, f, p, chance.nextInt(4), q, both);
            case 7 -> set(c, f, p, places);
            case 8 -> set(c, chance.nextInt(3) == 0 ? -9 : chance.nextInt(9));
            case 10 -> set(c, chance.nextInt(2));
            case 11 -> set(c, f, chance.nextInt(4));
            case 13 -> set(c, f, chance.nextInt(6), chance.nextInt(3));
            case 14 -> set(c, f, chance.nextInt(97), chance.nextInt(2));
            case 15 -> set(c, chance.nextInt(48));
            case 16 -> set(c, chance.nextInt(8), chance.nextInt(5));
            case 17 -> set(c, chance.nextInt(6));
            default -> set(c, f, name == 0 ? at : p);
        }
        if (chance.nextInt(12) == 0) {
            c[1 + chance.nextInt(5)] = WILD[chance.nextInt(WILD.length)];
        }
        return c;
    }

    private static void set(int[] call, int... arguments) {
        System.arraycopy(arguments, 0, call, 1, arguments.length);
    }
}
