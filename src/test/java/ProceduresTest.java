/** Section 4 of the document: calls, suspend, parts; promises 23 and 24 of them. */
public final class ProceduresTest extends Check {
    private static final String STALE = "((s := \"abcd\") & (s[3:5] :=: s))";

    private ProceduresTest() {
    }

    private static void whatIsCalled() {
        for (String f : new String[] {"&null", "[]", "'write'", "group()", "table()", "(create 1)", "\"none\"", "\"\"", "\"Write\""}) {
            gives(f + "(1)", "break 6 at " + f.length());
            gives(f + "(" + STALE + ")", "break 6 at " + f.length());
            gives(f + " ! [1]", "break 6 at " + (f.length() + 1));
            gives(f + " ! 1", "break 6 at " + (f.length() + 1));
        }
        gives(STALE + "(1)", "break 19 at " + STALE.length());
        gives("1(7, 8) | 2(7, 8) | (-1)(7, 8) | (-2)(7, 8) | 3(7, 8) | 0(7, 8) | (-3)(7, 8) | 1()", "7 8 8 7 .");
        gives("1000000000000000000000(1) | 4294967297(1)", ".");
        gives("2(" + STALE + ", 5)", "5 .");
        gives("1(" + STALE + ", 5)", "break 19 at 1");
        gives("(x := 5) & (1(x) := 6)", "break 4 at 17");
        gives("\"abs\"(-3) | \"main\" | \"main\"()", "3 \"main\" .");
        gives("abs ! [-3] | max ! [1, 5, 2] | 2 ! [7, 8] | \"abs\" ! [-1]", "3 5 8 1 .");
        says("record r(a, b);procedure f(x, y);return x + y;end;procedure main();writes(f ! r(3, 4), f ! [5, 6, 7], image(r ! [1]), (\"f\" ! [1, 1]) + 1);end", "711r_4(2)3");
        gives("abs ! 1", "break 10 at 4");
        gives("abs ! &null", "break 10 at 4");
        gives("abs ! group()", "break 10 at 4");
        gives("abs ! \"ab\"", "break 10 at 4");
        gives("abs ! " + STALE, "break 19 at 4");
        // Arguments behind a procedure's own, or a BUILT-IN one's, are not looked at.
        says("procedure f(a);return a;end;procedure g();return 8;end;procedure main();local s;writes(f(7, " + STALE + "), g(" + STALE + "), abs(-6, " + STALE + "));end", "786");
        for (String call : new String[] {"f(#)", "f(1, #)", "f(1, 2, #)", "g(#)", "g(1, #)", "h(#)", "h(1, #)"}) {
            GoalHouse y = whole("procedure f(a[]);return 1;end;procedure g(a, b);return 1;end;procedure h(a, b[]);return 1;end;procedure main();local s;" + call.replace("#", STALE) + ";end");
            due(call + " looks at it", y.told(0, 3), 19);
        }
        GoalHouse x = whole("procedure f(a[]);return 1;end;procedure main();local s;f(1, " + STALE + ");end");
        due("those of [ ] are looked at", x.told(0, 3), 19);
        x = whole("record r(a);procedure main();local s;write(image(r(1, " + STALE + ")));r(" + STALE + ");end");
        due("a maker's are looked at", x.told(0, 3), 19);
        due("those behind are not", out(x, 0), "r_1(1)\n");
    }

    private static void lists() {
        says("procedure f(a, b, c[]);writes(image(a), image(b), *c, image(c[1]) | \"-\", \" \");end;procedure main();f();f(1);f(1, 2);f(1, 2, 3);f(1, 2, 3, 4);f(, 2, , 4);end",
            "&null&null0- 1&null0- 120- 1213 1223 &null22&null ");
        says("procedure f(a);a := 5;local_ := 6;return a + local_;end;procedure main();x := 1;writes(f(x), x);end", "111");
        says("procedure f();local a;static b, c;initial { b := 5; writes(\"i\") };/a := 1;a +:= 1;b +:= 1;/c := 0;return a + b * 10 + (c +:= 1) * 100;end;procedure main();writes(f(), \" \", f(), \" \", f());end",
            "i162 272 382");
        says("procedure f();static a, b;initial a := 1;/b := 5;a +:= 1;return a * 10 + (b +:= 1);end;procedure g();static c, d;initial d := 7;/c := 100;return (c +:= 1) * 10 + d;end;"
            + "procedure h(n);static a;initial a := 3;a +:= n;return a;end;procedure main();every 1 to 2 do writes(f(), \" \", g(), \" \", h(2), \" \");end", "26 1017 5 37 1027 7 ");
        says("procedure f(n);static s;initial { s := 0; if n > 0 then f(n - 1) };s +:= 1;return s;end;procedure main();writes(f(3));end", "2");
        says("procedure f();initial writes(1) | writes(2);writes(3);end;procedure g();initial writes(4) & &fail;writes(5);return 6;end;procedure main();f();f();writes(g(), g());end", "13345566");
        says("procedure f();end;procedure g();1;2;end;procedure h();return;end;procedure k();return &fail;return 1;end;procedure m();fail;return 1;end;"
            + "procedure main();writes(f() | 1, g() | 2, image(h()), k() | 3, m() | 4);end", "12&null34");
        says("procedure f();return 1 | 2;end;procedure main();every writes(f());end", "1");
        says("procedure f();writes(1) | writes(2);writes(3) & &fail;writes(4);return 5;writes(6);end;procedure main();writes(f());end", "1345");
        GoalHouse x = whole("procedure f();local x;x := 3;return x;end;procedure main();f() := 4;end");
        due("a call gives a value, no cell", x.told(0, 3), 4);
    }

    private static void suspends() {
        says("procedure f();suspend 1 to 3;end;procedure main();every writes(f());end", "123");
        says("procedure f();suspend 1 | 2;suspend;return 3;end;procedure main();every writes(image(f()));end", "12&null3");
        says("procedure f();suspend 1 to 3 do writes(\"-\") | writes(\"+\");end;procedure main();every writes(f());end", "1-2-3-");
        says("procedure f();suspend 1 to 3 do writes(\"-\") & &fail;end;procedure main();every writes(f());end", "1-2-3-");
        says("procedure f();suspend &fail do writes(\"-\");suspend 4;end;procedure main();every writes(f());end", "4");
        says("procedure f();(suspend 1) | writes(2);suspend 3;end;procedure main();every writes(f());end", "123");
        says("procedure f(n);if n > 0 then { suspend n; suspend f(n - 1) };end;procedure main();every writes(f(3));end", "321");
        says("procedure f();suspend 1 to 3;end;procedure main();writes(f());every writes(f() \\ 2);end", "112");
        says("procedure f();x := 1;suspend x do x +:= 1;suspend x;end;procedure main();every writes(f());end", "12");
        says("procedure f();every suspend !\"ab\";return 7;end;procedure main();every writes(f());end", "ab7");
        says("procedure f();repeat { suspend 1; break };return 2;end;procedure main();every writes(f());end", "12");
    }

    private static void deep() {
        String source = "procedure f(n);if n > 1 then return f(n - 1);return 5;end;procedure main();write(f(59));f(60);end";
        GoalHouse x = whole(source);
        due("59 calls within main's", out(x, 0), "5\n");
        due("60 are too many", x.told(0, 3), 16);
        due("calls then", x.told(0, 10), 60);
        due("its place", x.told(0, 4), source.indexOf("(n - 1)"));
        says("procedure f(n);if n > 1 then return f(n - 1);return 5;end;procedure main();&error := 1;write(f(60) | \"no\", &number, image(&value));end", "no16&null\n");
        // One in a part counts from the call in which it was created.
        says("procedure f(n);if n > 1 then return f(n - 1);return 5;end;procedure g(n);if n > 1 then return g(n - 1);return create f(10 | 11);end;procedure main();"
            + "c := g(49);&error := 1;write(@c, @c | \"no\");end", "5no\n");
        x = whole("procedure f(n);if n > 1 then return f(n - 1);return 5;end;procedure main();end");
        due("in a goal 60", results(x, "f(60)", 2), "5 .");
        due("in a goal 61", results(x, "f(61)", 2), "break 16 at 37");
    }

    private static void parts() {
        writes("x := 1; c := create { x +:= 1; x | x * 10 | (x +:= 5) }; x := 7; writes(@c, \" \", @c, \" \", @c, \" \", @c | \"no\", @c | \"no\", x, *c)", "2 20 7 nono73");
        says("procedure f(a, b[]);local c;static d;c := 3;d := 4;e := create { a := 10; c := 11; d := 12; b[1] := 13; a + c };@e;writes(a, b[1], c, d);end;procedure main();f(1, 2);end", "113312");
        writes("x := 1; c := create (x +:= 1); x := 5; d := ^c; @d; writes(@^c, @^d, x, image(d))", "225part_2(1)");
        writes("x := 1; c := create (x +:= 1) | (x +:= 1); @c; d := ^c; writes(@d, @c, *c, *d)", "2321");
        writes("c := create writes(1); writes(2); @c; @c; @c", "21");
        writes("c := create &fail; writes(@c | 1, *c, @c | 2)", "102");
        writes("c := create (1 to 2); every writes(|@c)", "12");
        gives("@1", "break 7 at 0");
        gives("@&null", "break 7 at 0");
        gives("@[]", "break 7 at 0");
        gives("@\"main\"", "break 7 at 0");
        gives("@" + STALE, "break 19 at 0");
        gives("^1", "break 7 at 0");
        gives("^main", "break 7 at 0");
        gives("^" + STALE, "break 19 at 0");
        GoalHouse x = whole("global c;procedure main();c := create @c;@c;end");
        due("the present one", x.told(0, 3), 18);
        x = whole("global c, d;procedure main();c := create @d;d := create @c;@c;end");
        due("one that waits", x.told(0, 3), 18);
        says("global c;procedure main();c := create { d := ^c; 5 };writes(@c, *c);end", "51");
        says("global c;procedure main();&error := 1;c := create @c | 6;writes(@c, &number, image(&value), &error);end", "618&null0");
        // 60 parts in one another.
        says("global l;procedure main();l := [];every i := 1 to 60 do put(l, create f(i));put(l, create 9);&error := 1;writes(@l[2], *l[61], &number);end;procedure f(i);return @l[i + 1];end", "91");
        says("global l;procedure main();l := [];every i := 1 to 60 do put(l, create f(i));put(l, create 9);&error := 1;writes(@l[1] | \"no\", *l[61], &number, &error);end;procedure f(i);return @l[i + 1];end", "no0160");
        says("global l;procedure main();l := [];every i := 1 to 60 do put(l, create f(i));put(l, &null);&error := 2;writes(@l[1] | \"no\", &number);l[61] := l[60];writes(@l[59] | \"no\", &number);end;procedure f(i);return @l[i + 1];end",
            "no7no7");
    }

    /** Parts that a run was in are not active when it begins anew. */
    private static void begunAnew() {
        GoalHouse x = new GoalHouse();
        read(x, "global l;procedure f(i);return @l[i + 1];end;procedure main();l := [];every i := 1 to 59 do put(l, create f(i));put(l, create { write(1); repeat 1 });@l[1];end");
        x.run(0, 0);
        due("goes on in 60 parts", x.step(0, 3000), 1);
        due("it has begun the last one", out(x, 0), "1\n");
        due("begun anew", x.back(0, 3000), 1);
        due("in 60 parts again", out(x, 0), "1\n");
        due("no break", x.told(0, 3), 0);
        GoalHouse y = new GoalHouse();
        read(y, "global c;procedure main();c := create { repeat 1 };@c;end");
        y.run(0, 0);
        y.step(0, 100);
        due("in a part", y.back(0, 50), 1);
        due("in it again", y.back(0, 100), 1);
        due("&pos of it", y.told(0, 8), 1);
    }

    private static void events() {
        GoalHouse x = whole("procedure main();every f(1);g();return;end;procedure f(n);suspend n;fail;end;procedure g();return 5;end");
        // kind, procedure, calls, steps: every, f(, f, 1 are begun; then suspend and n.
        int[][] want = {{1, 0, 1, 0}, {1, 1, 2, 4}, {3, 1, 2, 6}, {5, 1, 2, 7}, {4, 1, 2, 9}, {1, 2, 2, 13}, {2, 2, 2, 15}, {2, 0, 1, 16}};
        due("events", x.told(0, 13), want.length);
        for (int i = 0; i < want.length; i++) {
            for (int k = 0; k < 4; k++) {
                due("event " + i + " " + k, x.event(0, i, k), want[i][k]);
            }
        }
        due("no event", x.event(0, want.length, 0), -1);
        due("event -1", x.event(0, -1, 0), -1);
        due("event's 4", x.event(0, 0, 4), -1);
        due("event's -1", x.event(0, 0, -1), -1);
        due("event of none", x.event(1, 0, 0), -1);
        x = whole("procedure f();end;procedure main();every 1 to 200 do f();end");
        due("events beyond 300", x.told(0, 13), 402);
        due("the last one kept", x.event(0, 299, 0), 1);
        due("none behind", x.event(0, 300, 0), -1);
    }

    private static void counted() {
        // every ( 1 | 2 ) & next: what is dropped neither gives nor fails.
        String source = "procedure main();every 1 | 2 do { next };repeat { (3 | 4) & break };not (5 | 6);return 7;end";
        GoalHouse x = whole(source);
        due("every begun", x.counted(0, 0, 0), 1);
        due("every failed", x.counted(0, 0, 3), 1);
        due("every gave", x.counted(0, 0, 2), 0);
        int next = nodeAt(x, source.indexOf("next"));
        due("next begun", x.counted(0, next, 0), 2);
        due("next gave", x.counted(0, next, 2), 0);
        due("next failed", x.counted(0, next, 3), 0);
        int brace = nodeAt(x, source.indexOf("{ next"));
        due("{ begun", x.counted(0, brace, 0), 2);
        due("{ gave", x.counted(0, brace, 2), 0);
        due("{ failed", x.counted(0, brace, 3), 0);
        int repeat = nodeAt(x, source.indexOf("repeat"));
        due("repeat gave", x.counted(0, repeat, 2), 1);
        due("repeat failed", x.counted(0, repeat, 3), 0);
        int dropped = nodeAt(x, source.indexOf("& break"));
        due("dropped & begun", x.counted(0, dropped, 0), 1);
        due("dropped & gave", x.counted(0, dropped, 2), 0);
        due("dropped & failed", x.counted(0, dropped, 3), 0);
        int three = nodeAt(x, source.indexOf("3 | 4"));
        due("3 gave", x.counted(0, three, 2), 1);
        due("3 not resumed", x.counted(0, three, 1), 0);
        int not = nodeAt(x, source.indexOf("not"));
        due("not failed", x.counted(0, not, 3), 1);
        int back = nodeAt(x, source.indexOf("return"));
        due("return begun", x.counted(0, back, 0), 1);
        due("return gave", x.counted(0, back, 2), 0);
        due("return failed", x.counted(0, back, 3), 0);
        due("7 gave", x.counted(0, back + 1, 2), 1);
        int all = x.count(0, 3);
        int sum = 0;
        for (int k = 0; k < all; k++) {
            sum += x.counted(0, k, 0) + x.counted(0, k, 1);
        }
        due("all begun and resumed are the steps", sum, x.told(0, 1));
        due("counted behind the last node", x.counted(0, all, 0), -1);
        due("counted -1", x.counted(0, -1, 0), -1);
        due("counted's 4", x.counted(0, 0, 4), -1);
        due("counted's -1", x.counted(0, 0, -1), -1);
        due("counted of none", x.counted(1, 0, 0), -1);
        x = whole("procedure f();suspend 1;suspend 2 | 3 do 4;fail;end;procedure main();every f();return &fail;end");
        int[][] suspends = {{1, 0, 0, 1}, {1, 1, 1, 1}, {1, 0, 0, 1}};
        for (int w = 0; w < 4; w++) {
            due("first suspend " + w, x.counted(0, 0, w), suspends[0][w]);
            due("its 1 " + w, x.counted(0, 1, w), suspends[1][w]);
            due("second suspend " + w, x.counted(0, 2, w), suspends[2][w]);
        }
        due("4 begun", x.counted(0, 6, 0), 2);
        due("4 gave", x.counted(0, 6, 2), 2);
        due("fail begun", x.counted(0, 7, 0), 1);
        due("fail failed", x.counted(0, 7, 3), 0);
        due("the call resumed", x.counted(0, 10, 1), 3);
        due("the call gave", x.counted(0, 10, 2), 3);
        due("the call failed", x.counted(0, 10, 3), 1);
        due("return with what fails", x.counted(0, 11, 3), 0);
        due("&fail failed", x.counted(0, 12, 3), 1);
    }

    private static int nodeAt(GoalHouse x, int place) {
        for (int k = 0; k < x.count(0, 3); k++) {
            if (x.node(0, k, 0) == place) {
                return k;
            }
        }
        return -1;
    }

    public static void main(String[] args) {
        whatIsCalled();
        lists();
        suspends();
        deep();
        parts();
        begunAnew();
        events();
        counted();
        end();
    }
}
