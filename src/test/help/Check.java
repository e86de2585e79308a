/** What the tests share: ways to use a house with texts, and to look at its answers. */
public class Check {
    private static int wrong;
    private static int asked;

    protected Check() {
    }

    public static void due(String what, long got, long want) {
        asked++;
        if (got != want) {
            wrong++;
            System.out.println(what + ": answered " + got + ", due is " + want);
        }
    }

    public static void due(String what, String got, String want) {
        asked++;
        if (!got.equals(want)) {
            wrong++;
            System.out.println(what + ": answered " + got + ", due is " + want);
        }
    }

    /** Ends the test, with exit code 1 if an answer was wrong. */
    public static void end() {
        System.out.println(asked + " answers looked at, " + wrong + " wrong");
        System.exit(wrong == 0 ? 0 : 1);
    }

    // ---- a house with texts

    public static void feed(GoalHouse x, String s) {
        int n = (s.length() + 19) / 20 * 20;
        int[] w = new int[5];
        for (int i = 0; i < n; i += 20) {
            for (int k = 0; k < 20; k++) {
                int c = i + k < s.length() ? s.charAt(i + k) : 0;
                w[k / 4] = w[k / 4] << 8 | c;
            }
            x.feed(w[0], w[1], w[2], w[3], w[4]);
        }
        x.cut(n - s.length());
    }

    public static int read(GoalHouse x, String s) {
        feed(x, s);
        return x.source();
    }

    public static String out(GoalHouse x, int run) {
        StringBuilder b = new StringBuilder();
        for (int i = 0; x.out(run, i) >= 0; i++) {
            b.append((char) x.out(run, i));
        }
        return b.toString();
    }

    public static String written(GoalHouse x, int program) {
        StringBuilder b = new StringBuilder();
        for (int i = 0; x.written(program, i) >= 0; i++) {
            b.append((char) x.written(program, i));
        }
        return b.toString();
    }

    public static String shown(GoalHouse x) {
        StringBuilder b = new StringBuilder();
        for (int i = 0; x.shown(i) >= 0; i++) {
            b.append((char) x.shown(i));
        }
        return b.toString();
    }

    /** What show() shows, or its answer below 0. */
    public static String show(GoalHouse x, int what, int k, int i) {
        int n = x.show(0, what, k, i);
        return n < 0 ? "" + n : shown(x);
    }

    /** A house with a run of main with this body, ended, broken, or cut after 32000 steps. */
    public static GoalHouse body(String body) {
        return whole("procedure main();\n" + body + "\n;end");
    }

    public static GoalHouse whole(String source) {
        return whole(source, "");
    }

    public static GoalHouse whole(String source, String input) {
        GoalHouse x = new GoalHouse();
        int p = read(x, source);
        if (p != 0) {
            due("fault " + x.fault(0) + " at " + x.fault(1) + " of " + source, p, 0);
            return x;
        }
        feed(x, input);
        x.run(0, 1);
        for (int i = 0; i < 8 && x.step(0, 4000) == 1; i++) {
            // It goes on, within the steps that a house has.
        }
        return x;
    }

    /** What a body writes. */
    public static void writes(String body, String want) {
        GoalHouse x = body(body);
        due(body + " ends", x.told(0, 0), 0);
        due(body, out(x, 0), want);
    }

    /** What a whole source writes. */
    public static void says(String source, String want) {
        GoalHouse x = whole(source);
        due(source + " ends", x.told(0, 0), 0);
        due(source, out(x, 0), want);
    }

    /** The images of all results of an expression, or what becomes of it, by goals. */
    public static void gives(String expression, String want) {
        GoalHouse x = body("");
        due(expression, results(x, expression, 12), want);
    }

    public static String results(GoalHouse x, String expression, int most) {
        feed(x, expression);
        int g = x.goal(0);
        if (g < 0) {
            return "fault " + x.fault(0) + " at " + x.fault(1);
        }
        StringBuilder b = new StringBuilder();
        for (int i = 0; i < most; i++) {
            int t = x.next(0, 1000);
            if (t != 1) {
                return b + (t == 0 ? "." : t == 2 ? "break " + x.told(0, 3) + " at " + x.told(0, 4) : "cut");
            }
            x.show(0, 1, 0, 0);
            b.append(shown(x)).append(' ');
        }
        return b + "..";
    }

    /** By which number a body BREAKS; 0: it ends. */
    public static void breaks(String body, int number) {
        GoalHouse x = body(body);
        due(body + " is broken", x.told(0, 0), number == 0 ? 0 : 2);
        due(body + " breaks", x.told(0, 3), number);
    }

    /** The number and the place of a source's fault, and what source() answers. */
    public static void fault(String source, int number, int place) {
        GoalHouse x = new GoalHouse();
        int p = read(x, source);
        due("fault of " + source, x.fault(0), number);
        due("fault's place of " + source, x.fault(1), number == 0 ? -2 : place);
        due("answer for " + source, p, number == 0 ? 0 : -10 - place);
    }

    public static void goalFault(String goal, int number, int place) {
        gives(goal, "fault " + number + " at " + place);
    }

    public static void writtenAs(String body, String want) {
        GoalHouse x = new GoalHouse();
        due("source " + body, read(x, "procedure main();" + body + ";end"), 0);
        due("written " + body, written(x, 0), "procedure main();\n   " + want + ";\nend\n");
    }

    public static String many(String s, int n) {
        StringBuilder b = new StringBuilder();
        for (int i = 0; i < n; i++) {
            b.append(s);
        }
        return b.toString();
    }

    /** a0 with these ends, then a1 .. up to n names, with commas. */
    public static String names(String stem, int n) {
        StringBuilder b = new StringBuilder();
        for (int i = 0; i < n; i++) {
            b.append(i == 0 ? "" : ",").append(stem).append(i);
        }
        return b.toString();
    }
}
