import java.util.Random;

/** Calls that are drawn, in any order and with any numbers: none throws, and what is refused leaves all as it was. */
public final class CallsTest extends Check {
    private static final String[] SOURCES = {
        "", "global g;procedure main();repeat g := [g];end", "procedure main();\"abc\" ? { tab(2); 1 + [] };end",
        "global g;record r(a, b);procedure f(n);suspend 1 to n;end;procedure main();g := r(table(), create f(9));write(@g.b);g.a[\"k\"] := read();end",
        "procedure f();end", "global 1", "procedure main();end", "procedure main();every write(1 to 9);stop(&pos);end"};
    private static final String[] GOALS = {"", "1 to 3", "g", "|1 & &fail", "\"xyz\" ? move(1 to 3)", "1 + []", "f(2) | write(7)", "q := create @q", "("};
    private static final int[] EDGES = {-1, 0, 1, 2, 3, 4, 5, 6, 13, 14, 300, 4000, 4001, Integer.MAX_VALUE, Integer.MIN_VALUE};

    private CallsTest() {
    }

    /** Something of all that a house has. */
    private static String looked(GoalHouse x) {
        StringBuilder o = new StringBuilder();
        o.append(x.cut(0)).append(' ').append(x.fault(0)).append(' ').append(x.fault(1)).append(' ').append(shown(x));
        for (int p = 0; p < 4; p++) {
            o.append('\n').append(x.count(p, 3)).append(' ').append(x.written(p, 20)).append(' ').append(x.name(p, 0, 0, 0));
        }
        for (int r = 0; r < 3; r++) {
            o.append('\n');
            for (int what = 0; what < 14; what++) {
                o.append(x.told(r, what)).append(' ');
            }
            o.append(x.thing(r, 2, 1)).append(' ').append(x.event(r, 1, 3)).append(' ').append(x.counted(r, 3, 1)).append(' ').append(x.out(r, 0));
        }
        return o.toString();
    }

    private static int number(Random random) {
        if (random.nextInt(3) > 0) {
            return random.nextInt(4);
        }
        return random.nextBoolean() ? EDGES[random.nextInt(EDGES.length)] : random.nextInt();
    }

    /** Puts a text on the tape, in place of what it has. */
    private static void put(GoalHouse x, String s) {
        x.cut(x.cut(0));
        feed(x, s);
    }

    /** Calls that may change something. */
    private static int changes(GoalHouse x, Random random, int which, int a, int b) {
        switch (which) {
            case 0:
                return x.feed(a, b, number(random), number(random), number(random));
            case 1:
                return x.cut(a);
            case 2:
                put(x, SOURCES[random.nextInt(SOURCES.length)]);
                return x.source();
            case 3:
                return random.nextInt(4) == 0 ? x.drop(a) : x.count(a, b);
            case 4:
                return x.run(a, b);
            case 5:
                return random.nextInt(4) == 0 ? x.end(a) : x.told(a, b);
            case 6:
                return x.step(a, b);
            case 7:
                return x.back(a, b);
            case 8:
                put(x, GOALS[random.nextInt(GOALS.length)]);
                return x.goal(a);
            case 9:
                return x.next(a, b);
            default:
                return x.show(a, b, number(random), number(random));
        }
    }

    /** Calls that tell something alone. */
    private static int tells(GoalHouse x, Random random, int which, int a, int b) {
        int c = number(random);
        switch (which) {
            case 0:
                return x.fault(a);
            case 1:
                return x.written(a, b);
            case 2:
                return x.name(a, b, c, number(random));
            case 3:
                return x.part(a, b, c);
            case 4:
                return x.node(a, b, c);
            case 5:
                return x.out(a, b);
            case 6:
                return x.shown(a);
            case 7:
                return x.thing(a, b, c);
            case 8:
                return x.event(a, b, c);
            default:
                return x.counted(a, b, c);
        }
    }

    private static void drawn(int seed) {
        Random random = new Random(seed);
        GoalHouse x = new GoalHouse();
        put(x, SOURCES[1 + random.nextInt(3)]);
        x.source();
        x.run(0, seed);
        for (int i = 0; i < 100; i++) {
            int a = number(random);
            int b = number(random);
            int which = random.nextInt(11);
            boolean asks = random.nextInt(4) == 0;
            boolean tape = which == 2 || which == 8;
            String before = looked(x);
            int answer = asks ? tells(x, random, random.nextInt(10), a, b) : changes(x, random, which, a, b);
            if (asks || answer < 0 && answer > -10 && !tape) {
                due("call " + i + " of " + seed + ", kind " + which + ", with " + a + ", " + b, looked(x), before);
            }
            if (!asks && which == 1 && answer >= 0) {
                due("cut", x.cut(0), answer);
            }
        }
    }

    /** A source or goal that is refused leaves the tape, and all else. */
    private static void tapes() {
        for (int seed = 0; seed < 300; seed++) {
            Random random = new Random(seed);
            GoalHouse x = new GoalHouse();
            for (int i = 0; i < 4; i++) {
                put(x, SOURCES[1 + random.nextInt(4)]);
                x.source();
                x.run(i, 1);
                x.step(i, 1 + random.nextInt(60));
            }
            put(x, "1 to 3");
            x.goal(2);
            x.next(2, 1 + random.nextInt(3));
            put(x, "g");
            String before = looked(x);
            due("four programs", x.source(), -3);
            due("nothing is done", looked(x), before);
            for (int run = -1; run < 4; run++) {
                int state = x.told(run, 0);
                if (state != 0) {
                    due("goal of " + run, x.goal(run), state < 0 ? -1 : -2);
                    due("nothing is done", looked(x), before);
                }
            }
        }
    }

    public static void main(String[] args) {
        for (int seed = 0; seed < 400; seed++) {
            drawn(seed);
        }
        tapes();
        end();
    }
}
