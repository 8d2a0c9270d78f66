import java.util.Arrays;
import java.util.NoSuchElementException;
import java.util.function.LongSupplier;

/** What the tests share: texts are put in, answers and ROWS are compared, wrong ones are printed. */
final class Check {
    private final String name;
    private int asked;
    private int wrong;

    Check(String name) {
        this.name = name;
    }

    void is(String call, long got, long due) {
        asked++;
        if (got != due) {
            wrong++;
            System.out.println(name + ": " + call + " answered " + got + ", due is " + due);
        }
    }

    void is(String call, boolean got, boolean due) {
        is(call, got ? 1 : 0, due ? 1 : 0);
    }

    /** The answer of a call and the whole ROW behind it. */
    void tells(CardsAndBans x, String call, long got, long due, long... row) {
        is(call, got, due);
        asked++;
        long[] found = rowOf(x);
        if (!Arrays.equals(found, row)) {
            wrong++;
            System.out.println(name + ": " + call + " has the row " + Arrays.toString(found)
                + ", due is " + Arrays.toString(row));
        }
    }

    /** A refused call: nothing changed, the ROW stays, and THE TEXT has so many signs behind it. */
    void refuses(CardsAndBans x, String call, long due, int signs, LongSupplier it) {
        String was = Snapshot.of(x);
        long[] row = rowOf(x);
        int acts = x.count(5);
        is(call, it.getAsLong(), due);
        is(call + ": the row stays", Arrays.equals(rowOf(x), row), true);
        is(call + ": signs of the text", x.count(10), signs);
        is(call + ": acts stay", x.count(5), acts);
        is(call + ": nothing changed", Snapshot.of(x).equals(was), true);
    }

    void end() {
        System.out.println(name + ": " + asked + " answers, " + wrong + " wrong");
        if (wrong != 0 || asked == 0) {
            System.exit(1);
        }
    }

    static long[] rowOf(CardsAndBans x) {
        long[] found = new long[x.count(9)];
        for (int i = 0; i < found.length; i++) {
            found[i] = x.row(i);
        }
        return found;
    }

    static boolean hasRow(CardsAndBans x, int i) {
        try {
            x.row(i);
            return true;
        } catch (NoSuchElementException e) {
            return false;
        }
    }

    /** THE TEXT is just this text. */
    static void put(CardsAndBans x, String text) {
        x.end(0);
        for (int i = 0; i < text.length(); i += 4) {
            int v = 0;
            for (int k = i; k < i + 4; k++) {
                v = v << 8 | (k < text.length() ? text.charAt(k) : 0);
            }
            x.sign(v);
        }
        x.end(text.length());
    }

    static int rules(CardsAndBans x, String text) {
        put(x, text);
        return x.rules();
    }

    static int squads(CardsAndBans x, String text) {
        put(x, text);
        return x.squads();
    }

    static int play(CardsAndBans x, int cup, int a, int b, String text) {
        put(x, text);
        return x.play(cup, a, b);
    }

    static int given(CardsAndBans x, String text) {
        put(x, text);
        return x.given();
    }

    static long plan(CardsAndBans x, int player, String text) {
        put(x, text);
        return x.plan(player);
    }

    static int returns(CardsAndBans x, int player, String text) {
        put(x, text);
        return x.returns(player);
    }

    static int behind(CardsAndBans x, String text) {
        put(x, text);
        return x.behind();
    }

    static String written(CardsAndBans x) {
        StringBuilder all = new StringBuilder();
        for (int i = 0; i < x.written(CardsAndBans.NONE); i++) {
            all.append((char) x.written(i));
        }
        return all.toString();
    }

    /** Six PLAYERS, two a TEAM; CUP 0 OWN with STEPS and ROUND 3, CUP 1 ALL. */
    static CardsAndBans ordinary() {
        CardsAndBans x = new CardsAndBans();
        squads(x, "001122");
        rules(x, "0o3x3:2/1,4/2;1a2x0");
        return x;
    }

    /** A hundred BANS, or so many, of PLAYER 0 in CUP 0. */
    static void fill(CardsAndBans x, int bans) {
        for (int i = 0; i < bans; i++) {
            x.bans(0, 0, 1);
        }
    }
}
