/** Promises 12 to 24: runs, steps, goals, and what is told of them; each refused call. */
public final class RunsTest extends Check {
    private RunsTest() {
    }

    private static void refused() {
        GoalHouse x = new GoalHouse();
        read(x, "procedure f();end");
        read(x, "procedure main();repeat 1;end");
        int[] none = {-1, 3, 4, Integer.MIN_VALUE, Integer.MAX_VALUE, 0, 1, 2};
        for (int r : none) {
            due("end of none", x.end(r), -1);
            due("step of none", x.step(r, 1), -1);
            due("back of none", x.back(r, 1), -1);
            due("goal of none", x.goal(r), -1);
            due("next of none", x.next(r, 1), -1);
            due("told of none", x.told(r, 0), -1);
            due("out of none", x.out(r, 0), -1);
            due("show of none", x.show(r, 4, 0, 0), -1);
            due("thing of none", x.thing(r, 1, 0), -1);
            due("event of none", x.event(r, 0, 0), -1);
            due("counted of none", x.counted(r, 0, 0), -1);
        }
        for (int p : new int[] {-1, 2, 3, 4}) {
            due("run of none", x.run(p, 0), -1);
        }
        feed(x, "tape");
        due("run without main", x.run(0, 0), -2);
        due("its tape stays", x.cut(0), 4);
        due("run of none", x.run(3, 0), -1);
        due("its tape stays", x.cut(0), 4);
        due("run", x.run(1, 0), 0);
        due("its tape is gone", x.cut(0), 0);
        due("run", x.run(1, 0), 1);
        due("run", x.run(1, 0), 2);
        feed(x, "tape");
        due("three runs", x.run(1, 0), -3);
        due("the tape stays", x.cut(0), 4);
        due("no main is told first", x.run(0, 0), -2);
        due("no program is told first", x.run(2, 0), -1);
        due("end", x.end(1), 0);
        due("end again", x.end(1), -1);
        due("the least free one", x.run(1, 0), 1);
        due("end", x.end(2), 0);
        due("end", x.end(0), 0);
        due("the least free one", x.run(1, 0), 0);
        due("step 0", x.step(0, 0), -1);
        due("step -1", x.step(0, -1), -1);
        due("step 4001", x.step(0, 4001), -1);
        due("nothing was done", x.told(0, 1), 0);
        due("step 1", x.step(0, 1), 1);
        due("step 4000", x.step(0, 4000), 1);
        due("steps", x.told(0, 1), 4001);
        due("back -1", x.back(0, -1), -1);
        due("back 4001", x.back(0, 4001), -1);
        due("nothing was done", x.told(0, 1), 4001);
        due("back 4000", x.back(0, 4000), 1);
        due("steps", x.told(0, 1), 4000);
        due("goal of one that goes on", x.goal(0), -2);
        due("next without a goal", x.next(0, 1), -2);
        due("next 0", x.next(0, 0), -1);
        due("next 4001", x.next(0, 4001), -1);
        due("told -1", x.told(0, -1), -1);
        due("told 14", x.told(0, 14), -1);
        due("out -1", x.out(0, -1), -1);
        due("out 0", x.out(0, 0), -1);
        due("show -1", x.show(0, -1, 0, 0), -1);
        due("show 7", x.show(0, 7, 0, 0), -1);
        due("end tells its steps", x.end(0), 4000);
        due("drop", x.drop(1), 1);
        due("its runs are gone", x.told(1, 0), -1);
    }

    private static void drops() {
        GoalHouse x = new GoalHouse();
        read(x, "procedure main();end");
        read(x, "procedure main();end");
        x.run(0, 0);
        x.run(1, 0);
        x.run(0, 0);
        due("drop with two runs", x.drop(0), 2);
        due("the other one goes on", x.told(1, 0), 1);
        due("they are gone", x.told(0, 0) + x.told(2, 0), -2);
        due("drop with one", x.drop(1), 1);
        due("drop of none", x.drop(1), -1);
    }

    private static void begins() {
        GoalHouse x = new GoalHouse();
        read(x, "global g;procedure main(a, b[]);local c;static d;write(&random, &pos, *&subject, &error, image(&number), image(&value), image(a), *b, image(c), image(d), image(g));end");
        feed(x, "input");
        due("run", x.run(0, -2), 0);
        int[] told = {1, 0, 0, 0, -2, 1, 3, 0, 1, 0, 1, 0, 0x7ffffffe, 1};
        for (int i = 0; i < told.length; i++) {
            due("told " + i + " at first", x.told(0, i), told[i]);
        }
        due("no result", x.show(0, 1, 0, 0), -2);
        due("&subject", show(x, 4, 0, 0), "\"\"");
        due("&value", show(x, 5, 0, 0), "&null");
        due("&number", show(x, 6, 0, 0), "&null");
        due("a global", show(x, 0, 0, 0), "&null");
        due("event 0", x.event(0, 0, 0) * 1000 + x.event(0, 0, 1) * 100 + x.event(0, 0, 2) * 10 + x.event(0, 0, 3), 1010);
        due("its end", x.step(0, 100), 0);
        due("what it is at first", out(x, 0), "2147483646100&null&null&null0&null&null&null\n");
        due("calls", x.told(0, 10), 0);
        due("it failed", x.event(0, 1, 0), 4);
        due("events", x.told(0, 13), 2);
        for (int seed : new int[] {0, 1, Integer.MAX_VALUE, -1, Integer.MIN_VALUE}) {
            GoalHouse y = new GoalHouse();
            read(y, "procedure main();end");
            y.run(0, seed);
            due("&random of " + seed, y.told(0, 12), seed & 0x7fffffff);
            due("goes on", y.told(0, 0), 1);
            due("no step, yet not ended", y.told(0, 1), 0);
            due("step", y.step(0, 1), 0);
            due("no step was needed", y.told(0, 1), 0);
        }
        GoalHouse m = whole("procedure main(q[]);put(q, 5);write(*q, q[1]);end");
        due("main's list of [ ]", out(m, 0), "15\n");
        due("its thing", m.told(0, 5), 1);
        due("its cells", m.told(0, 6), 2);
        GoalHouse z = whole("procedure main();writes(*&letters, &digits, &lower, &upper, *&all);end");
        due("&letters ..", out(z, 0), "520123456789abcdefghijklmnopqrstuvwxyzABCDEFGHIJKLMNOPQRSTUVWXYZ256");
    }

    private static void stepByStep() {
        GoalHouse x = new GoalHouse();
        // begin {, 1, write: its name, 2; then what needs no step.
        read(x, "procedure main();1;write(2);end");
        x.run(0, 0);
        int[] out = {0, 0, 0, 2};
        for (int i = 0; i < 4; i++) {
            due("step " + i, x.step(0, 1), i == 3 ? 0 : 1);
            due("steps " + i, x.told(0, 1), i + 1);
            due("out " + i, x.told(0, 2), out[i]);
        }
        due("step of what has ended", x.step(0, 1), 0);
        due("steps stay", x.told(0, 1), 4);
        due("back 3", x.back(0, 3), 1);
        due("out", x.told(0, 2), 0);
        due("back 4", x.back(0, 4), 0);
        due("out", x.told(0, 2), 2);
        due("back 0", x.back(0, 0), 1);
        due("all as at first", x.told(0, 1) + x.told(0, 2) + x.told(0, 10) + x.told(0, 13), 2);
        due("step 100", x.step(0, 100), 0);
        GoalHouse y = new GoalHouse();
        read(y, "global g;procedure main();static s;initial s := 5;g := read();&random := 9;&error := 3;1 + [];\"abc\" ? { tab(2); s +:= 1; g := s };[];g := s;end");
        feed(y, "line");
        y.run(0, 7);
        int steps = y.step(0, 4000);
        due("ended", steps, 0);
        int all = y.told(0, 1);
        due("back to the middle", y.back(0, all - 2), 1);
        due("all again", y.back(0, all), 0);
        due("&random", y.told(0, 12), 9);
        due("s began anew", show(y, 0, 0, 0), "6");
        due("back 0", y.back(0, 0), 1);
        int[] told = {1, 0, 0, 0, -2, 0, 0, 0, 1, 0, 1, 0, 7, 1};
        for (int i = 0; i < told.length; i++) {
            due("told " + i + " behind back()", y.told(0, i), told[i]);
        }
        due("&number", show(y, 6, 0, 0), "&null");
        due("&value", show(y, 5, 0, 0), "&null");
        due("g", show(y, 0, 0, 0), "&null");
        due("counted", y.counted(0, 0, 0), 0);
        due("no thing", y.thing(0, 1, 0), -1);
        due("INPUT is there again", y.step(0, 12), 1);
        due("a line", y.told(0, 7), 4);
        due("shown", show(y, 0, 0, 0), "\"line\"");
        GoalHouse z = new GoalHouse();
        read(z, "procedure main();1 + [];end");
        z.run(0, 0);
        due("broken", z.step(0, 9), 2);
        due("back of a broken one", z.back(0, 2), 1);
        due("no break", z.told(0, 3), 0);
        due("broken again", z.step(0, 1), 2);
        due("back to the break", z.back(0, 3), 2);
        due("and no further", z.told(0, 1), 3);
    }

    /** All runs and goals of the house together have 40000 steps. */
    private static void allSteps() {
        GoalHouse x = new GoalHouse();
        read(x, "global g;procedure main();g := 1;end");
        read(x, "procedure main();repeat 1;end");
        x.run(0, 0);
        due("an ended one", x.step(0, 100), 0);
        due("its steps", x.told(0, 1), 3);
        x.run(1, 0);
        for (int i = 0; i < 9; i++) {
            due("4000 steps", x.step(1, 4000), 1);
        }
        due("3990 steps", x.step(1, 3990), 1);
        due("8 are too many", x.step(1, 8), -3);
        due("nothing is done", x.told(1, 1), 39990);
        due("back 8", x.back(1, 8), -3);
        due("nothing is done", x.told(1, 1), 39990);
        due("what has ended is told", x.step(0, 4000), 0);
        feed(x, "1 to 3");
        due("a goal", x.goal(0), 0);
        due("next 8", x.next(0, 8), -3);
        due("next 7", x.next(0, 7), 1);
        due("its steps", x.told(0, 1), 6);
        due("next 5", x.next(0, 5), -3);
        due("next 4", x.next(0, 4), 1);
        due("step 4", x.step(1, 4), -3);
        due("step 3", x.step(1, 3), 1);
        due("step 1", x.step(1, 1), -3);
        due("next 1", x.next(0, 1), -3);
        due("next 1 of none", x.next(1, 1), -2);
        due("the goal is open still", x.goal(1), -2);
        due("back 1", x.back(1, 1), -3);
        due("back 0", x.back(1, 0), 1);
        due("begun anew", x.told(1, 1), 0);
        due("step 0 is BAD", x.step(1, 0), -1);
        due("a new run", x.run(1, 0), 2);
        due("has none either", x.step(2, 1), -3);
    }

    private static void ended() {
        GoalHouse x = whole("global c, g;procedure main();&subject := \"base\";&pos := 3;c := create (\"xyz\" ? (tab(2) & stop())) | 5;\"inner\" ? @c;end");
        due("ended by stop", x.told(0, 0), 0);
        due("&pos from outside", x.told(0, 8), 3);
        due("&subject from outside", show(x, 4, 0, 0), "\"base\"");
        due("the part is over", results(x, "@c", 2), ".");
        due("stop wrote", out(x, 0), "\n");
        x = whole("global a, b, c;procedure main();a := create @b | 1;b := create @c | 2;c := create stop(3) | 4;@a;end");
        due("ended in three parts", x.told(0, 0), 0);
        due("all are over", results(x, "@a | @b | @c | *a", 5), "0 .");
        x = whole("procedure main();\"abc\" ? return tab(2);end");
        due("ended by return", x.told(0, 0), 0);
        due("&subject", x.told(0, 9), 0);
        due("returned", x.event(0, 1, 0), 2);
        x = whole("procedure main();\"abc\" ? fail;end");
        due("ended by fail", x.told(0, 0), 0);
        due("failed", x.event(0, 1, 0), 4);
        x = whole("procedure main();suspend 1;write(2);end");
        due("ended by suspend", x.told(0, 0), 0);
        due("suspended", x.event(0, 1, 0), 3);
        due("nothing behind it", x.told(0, 2), 0);
        x = whole("procedure main();\"ab\" ? (tab(2) & (1 + []));end");
        due("broken within", x.told(0, 8), 2);
        // A value that main returns is looked at.
        x = whole("procedure main();return (s := \"abcd\") & (s[3:5] :=: s);end");
        due("main's return", x.told(0, 3), 19);
    }

    private static void goals() {
        GoalHouse x = whole("global g, h;record r(a);procedure f(n);suspend 1 to n;end;procedure main();g := [7];end");
        int cells = x.told(0, 6);
        feed(x, names("q", 60).replace(",", "|") + "|g");
        due("60 NAMES of its own", x.goal(0), 60);
        due("they have no cells for 14", x.told(0, 6), cells);
        due("no result yet", x.show(0, 1, 0, 0), -2);
        due("the first one", x.next(0, 100), 1);
        due("NULL", show(x, 1, 0, 0), "&null");
        due("calls", x.told(0, 10), 0);
        due("results of globals", results(x, "!g | image(f) | image(r) | f(2)", 9), "7 \"procedure f\" \"record r\" 1 2 .");
        due("its own are new each time", results(x, "(q := 5) & q", 2), "5 .");
        due("NULL then", results(x, "q", 2), "&null .");
        due("globals stay", results(x, "h := 9", 1), "9 ..");
        due("they stay", results(x, "h", 2), "9 .");
        due("shown", show(x, 0, 1, 0), "9");
        // create copies its own as locals, with cells.
        int things = x.told(0, 5);
        cells = x.told(0, 6);
        due("a part of a goal", results(x, "(a := 1) & (c := create a +:= 1) & (a := 5) & (@c | @c | a | *c)", 9), "2 5 1 .");
        due("its cells", x.told(0, 6), cells + 2);
        due("its thing", x.told(0, 5), things + 1);
        due("kept in a global", results(x, "h := create 1 to 3", 1), "part_3(0) ..");
        due("over with the next goal", results(x, "@h", 1), ".");
        due("what ^ makes of it, too", results(x, "@^h", 1), ".");
        due("it is there", results(x, "*h", 1), "0 ..");
        due("parts of the program are not over", results(x, "h := f", 1), "procedure f ..");
        // A goal that reads with a fault.
        due("a goal's part", results(x, "h := create 1 to 3", 1), "part_5(0) ..");
        feed(x, "1 +");
        due("a fault", x.goal(0), -13);
        due("which", x.fault(0), 2);
        due("where", x.fault(1), 3);
        due("no goal", x.next(0, 1), -2);
        due("no result", x.show(0, 1, 0, 0), -2);
        due("the tape is empty", x.cut(1), -1);
        feed(x, "");
        due("an empty goal", x.goal(0), -10);
        due("two expressions", results(x, "1;2", 2), "fault 2 at 1");
        due("an item", results(x, "global a", 2), "fault 2 at 0");
        due("a note and blanks", results(x, " # n\n 1\n", 2), "1 .");
        due("a ; in another line", results(x, "1\n2", 2), "fault 2 at 2");
        // Cut, broken, failed.
        feed(x, "(1 to 2) + 5");
        x.goal(0);
        due("cut", x.next(0, 4), 3);
        feed(x, "9");
        due("a goal that is cut stays", x.goal(0), -2);
        due("the tape stays", x.cut(0), 1);
        x.cut(1);
        due("goes on", x.next(0, 1), 1);
        due("shown", show(x, 1, 0, 0), "6");
        due("cut again", x.next(0, 1), 3);
        due("shown still", show(x, 1, 0, 0), "6");
        due("goes on", x.next(0, 3), 1);
        due("shown", show(x, 1, 0, 0), "7");
        due("failed", x.next(0, 4000), 0);
        due("shown still", show(x, 1, 0, 0), "7");
        due("it is no more", x.next(0, 1), -2);
        feed(x, "8 | (1 + [])");
        x.goal(0);
        due("none of the new one yet", x.show(0, 1, 0, 0), -2);
        due("one", x.next(0, 100), 1);
        due("it BREAKS", x.next(0, 100), 2);
        due("the run has ENDED still", x.told(0, 0), 0);
        due("the number", x.told(0, 3), 1);
        due("the place", x.told(0, 4), 7);
        due("shown still", show(x, 1, 0, 0), "8");
        due("it is no more", x.next(0, 1), -2);
        due("a goal behind it", results(x, "3", 2), "3 .");
        due("the number stays", x.told(0, 3), 1);
        due("the place stays", x.told(0, 4), 7);
        due("step of the run", x.step(0, 10), 0);
        // Broken within scannings and parts: they are left, parts are over.
        due("broken within", results(x, "(h := create (\"xy\" ? (tab(2) & (1 + [])))) & (\"ab\" ? @h)", 2), "break 1 at 34");
        due("&pos", x.told(0, 8), 1);
        due("&subject", x.told(0, 9), 0);
        due("calls", x.told(0, 10), 0);
        x.goal(0);
        String source = "global h;procedure main();h := create (\"xy\" ? { tab(2); (1 + []) | 5 }) | 6;end";
        GoalHouse y = whole(source);
        due("a part of the program that BREAKS", results(y, "@h", 2), "break 1 at " + source.indexOf("+"));
        due("is over", results(y, "@h", 2), ".");
        // Steps and events of goals are counted, nodes of goals are not.
        y = whole("procedure f();return 5;end;procedure main();end");
        int steps = y.told(0, 1);
        due("a call", results(y, "f()", 1), "5 ..");
        due("its steps", y.told(0, 1), steps + 4);
        due("its events", y.told(0, 13), 4);
        due("its calls", y.event(0, 2, 2), 1);
        due("steps at its call", y.event(0, 2, 3), steps + 2);
        due("counted in f", y.counted(0, 0, 0) + y.counted(0, 1, 2), 2);
        feed(y, "f()");
        y.goal(0);
        y.next(0, 3);
        due("calls within", y.told(0, 10), 1);
        due("cut within", y.told(0, 0), 0);
        due("back ends the goal", y.back(0, 0), 0);
        due("no goal", y.next(0, 1), -2);
        due("no result", y.show(0, 1, 0, 0), -2);
        due("a goal of what began anew", results(y, "f()", 1), "5 ..");
        due("a result", show(y, 1, 0, 0), "5");
        due("back", y.back(0, 0), 0);
        due("its goal is no more", y.next(0, 1), -2);
        due("nor its result", y.show(0, 1, 0, 0), -2);
        due("again", results(y, "f()", 1), "5 ..");
        due("end tells goals' steps, too", y.end(0), 4);
        // &error, &random, INPUT, OUT go on.
        y = whole("procedure main();&error := 2;&random := 5;end", "one\ntwo");
        due("&error", results(y, "(1 + []) | &error | &number", 3), "1 1 .");
        due("told", y.told(0, 11), 1);
        due("read", results(y, "read()", 1), "\"one\" ..");
        due("read", results(y, "|read()", 5), "\"two\" .");
        due("write", results(y, "write(1)", 1), "1 ..");
        due("OUT", out(y, 0), "1\n");
        due("&subject stays", results(y, "(&subject := \"abc\") & (&pos := 2)", 1), "2 ..");
        due("told 8", y.told(0, 8), 2);
        due("told 9", y.told(0, 9), 3);
        due("in a goal", results(y, "&subject || &pos", 1), "\"abc2\" ..");
        due("a scanning is left by a result", results(y, "\"zz\" ? tab(0)", 1), "\"zz\" ..");
        due("told 9", y.told(0, 9), 3);
        due("its own when resumed", results(y, "\"zz\" ? (tab(2) | &pos)", 3), "\"z\" 1 .");
    }

    private static void shows() {
        GoalHouse x = whole("global a, b;record r(p, q);procedure main();a := [5, \"x\"];t := table();t[\"k\"] := 1;t[2] := 'c';g := group([9, 8]);b := r(7);c := create 1 | 2;@c;delete(g, 9);delete(t, \"k\");t[\"k\"] := 3;end");
        // list 1, table 2, list 3, group 4, record 5, part 6
        int[] kinds = {0, 2, 0, 1, 3, 4};
        int[] sizes = {2, 2, 2, 1, 2, 1};
        for (int k = 1; k <= 6; k++) {
            due("kind of thing " + k, x.thing(0, k, 0), kinds[k - 1]);
            due("size of thing " + k, x.thing(0, k, 1), sizes[k - 1]);
            due("record of thing " + k, x.thing(0, k, 2), k == 5 ? 0 : -2);
        }
        for (int k : new int[] {-1, 0, 7, Integer.MAX_VALUE, Integer.MIN_VALUE}) {
            for (int what = 0; what < 3; what++) {
                due("no thing " + k, x.thing(0, k, what), -1);
            }
            due("show of no thing", x.show(0, 2, k, 1), -2);
            due("show of no table", x.show(0, 3, k, 1), -2);
        }
        due("thing's 3", x.thing(0, 1, 3), -1);
        due("thing's -1", x.thing(0, 1, -1), -1);
        due("global a", show(x, 0, 0, 0), "list_1(2)");
        due("global b", show(x, 0, 1, 0), "r_5(2)");
        due("no global", x.show(0, 0, 2, 0), -2);
        due("global -1", x.show(0, 0, -1, 0), -2);
        due("SHOWN stays", shown(x), "r_5(2)");
        due("element 1", show(x, 2, 1, 1), "5");
        due("element 2", show(x, 2, 1, 2), "\"x\"");
        for (int i : new int[] {0, 3, -1, Integer.MAX_VALUE, Integer.MIN_VALUE}) {
            for (int k = 1; k <= 6; k++) {
                due("no element " + i + " of " + k, x.show(0, 2, k, i), -2);
                due("no key " + i + " of " + k, x.show(0, 3, k, i), -2);
            }
        }
        due("element 1 of the table", show(x, 2, 2, 1), "'c'");
        due("element 2 of the table", show(x, 2, 2, 2), "3");
        due("key 1", show(x, 3, 2, 1), "2");
        due("key 2", show(x, 3, 2, 2), "\"k\"");
        due("a member", show(x, 2, 4, 1), "8");
        due("no member", x.show(0, 2, 4, 2), -2);
        due("a field", show(x, 2, 5, 1), "7");
        due("a field", show(x, 2, 5, 2), "&null");
        due("no element of a part", x.show(0, 2, 6, 1), -2);
        due("no key of a list", x.show(0, 3, 1, 1), -2);
        due("no key of a group", x.show(0, 3, 4, 1), -2);
        due("no key of a record", x.show(0, 3, 5, 1), -2);
        due("show 7", x.show(0, 7, 1, 1), -1);
        due("show -1", x.show(0, -1, 1, 1), -1);
        due("SHOWN stays", shown(x), "&null");
        due("byte 5", x.shown(4), 'l');
        due("behind it", x.shown(5), -1);
        due("ahead of it", x.shown(-1), -1);
        due("the end of a run", x.end(0) > 0 ? 1 : 0, 1);
        due("SHOWN stays", shown(x), "&null");
        GoalHouse y = new GoalHouse();
        due("nothing shown", y.shown(0), -1);
    }

    public static void main(String[] args) {
        refused();
        drops();
        begins();
        stepByStep();
        allSteps();
        ended();
        goals();
        shows();
        end();
    }
}
