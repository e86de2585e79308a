/** Section 5 of the document: BREAKS and their limits, &error, steps, what a run uses up. */
public final class BreaksTest extends Check {
    private static final String STALE = "((s := \"abcd\") & (s[3:5] :=: s))";

    private BreaksTest() {
    }

    /** The number and &value of what BREAKS, allowed by &error; the act fails. */
    private static void allowed(String act, int number, String value) {
        GoalHouse x = body("x := t := s := &null; &error := 2; (" + act + ") & write(\"not failed\"); write(&error, \" \", &number, \" \", image(&value))");
        due(act + " ends", x.told(0, 0), 0);
        due(act, out(x, 0), "1 " + number + " " + value + "\n");
        due(act + ": the run was not broken", x.told(0, 3), 0);
        due(act + ": no place", x.told(0, 4), -2);
        due(act + ": &error", x.told(0, 11), 1);
        GoalHouse y = body("x := t := s := &null; " + act);
        due(act + " is broken", y.told(0, 0), 2);
        due(act + " by", y.told(0, 3), number);
    }

    private static void numbers() {
        allowed("1 + \"x\"", 1, "\"x\"");
        allowed("[] - 1", 1, "list_1(0)");
        allowed("abs('x')", 1, "'x'");
        allowed("\"a\" || main", 2, "procedure main");
        allowed("&null || []", 2, "&null");
        allowed("find()", 2, "&null");
        allowed("~[]", 3, "list_1(0)");
        allowed("any(main)", 3, "procedure main");
        allowed("1 := 2", 4, "&null");
        allowed("x :=: 2", 4, "&null");
        allowed("1 ||:= 2", 4, "&null");
        allowed("1 ||| []", 5, "1");
        allowed("put(\"x\", 1)", 5, "\"x\"");
        allowed("group(7)", 5, "7");
        allowed("\"zz\"(1)", 6, "\"zz\"");
        allowed("[](1)", 6, "list_1(0)");
        allowed("&null ! []", 6, "&null");
        allowed("@5", 7, "5");
        allowed("^\"x\"", 7, "\"x\"");
        allowed("\"abc\".x", 8, "\"abc\"");
        allowed("&null.x", 8, "&null");
        allowed("insert([], 1)", 9, "list_1(0)");
        allowed("member(1, 2)", 9, "1");
        allowed("delete(\"x\", 2)", 9, "\"x\"");
        allowed("key([])", 9, "list_1(0)");
        allowed("*main", 10, "procedure main");
        allowed("!&null", 10, "&null");
        allowed("?main", 10, "procedure main");
        allowed("main[1]", 10, "procedure main");
        allowed("table()[1:2]", 10, "table_1(0)");
        allowed("abs ! 'x'", 10, "'x'");
        allowed("sort(\"x\")", 10, "\"x\"");
        allowed("1 / 0", 11, "&null");
        allowed("1 to 2 by 0", 11, "&null");
        allowed("10 ^ 60", 12, "&null");
        allowed("repl(\"a\", 501)", 13, "&null");
        allowed("\"ab\"[1:1] := 2", 4, "&null");
        allowed("every 1 to 12 do list(500)", 14, "&null");
        allowed("every 1 to 1001 do []", 15, "&null");
        allowed("x := " + STALE, 19, "&null");
        allowed("char(256)", 20, "&null");
        allowed("1 \\ -1", 20, "&null");
        allowed("&random := -1", 20, "&null");
        GoalHouse x = whole("global x;procedure main();&error := 2;x := create @x | 7;write(@x, \" \", &error, \" \", &number, \" \", image(&value));end");
        due("18", out(x, 0), "7 1 18 &null\n");
        x = whole("procedure f(n);return f(n + 1);end;procedure main();&error := 2;f(1) & write(1);write(&error, \" \", &number, \" \", image(&value));end");
        due("16", out(x, 0), "1 16 &null\n");
        x = body("s := repl(\"a\", 500); every 1 to 12 do writes(s); &error := 2; writes(1); s := \"\"; l := [&error, &number, &value]; while pull(l) & 0");
        due("17", x.told(0, 2), 6000);
        due("17 ends", x.told(0, 0), 0);
        due("&error", x.told(0, 11), 1);
        due("&number", show(x, 6, 0, 0), "17");
        due("&value", show(x, 5, 0, 0), "&null");
        x = body("writes(&error, image(&number), image(&value)); &error := 1; 1 + []; writes(&error, &number); &error := 0; [] - 1");
        due("&error, &number, &value", out(x, 0), "0&null&null01");
        due("broken when &error is 0", x.told(0, 0), 2);
        due("&number stays", show(x, 6, 0, 0), "1");
        due("&value stays", show(x, 5, 0, 0), "list_1(0)");
        writes("&error := 3; every writes((1 | \"x\" | 2 | [] | 3) + 10, \" \"); writes(&error, &number)", "11 12 13 11");
        // What fails by &error goes back as what fails.
        writes("&error := 1000; every x := 1 to 5 do [] + 1; writes(&error)", "995");
        writes("&error := 2; every writes(seq(" + many("9", 60) + ") | 5); writes(&number)", many("9", 60) + "512");
    }

    private static void broken() {
        String source = "global g;procedure f();local t;\"subject\" ? { tab(4); t := 1 + g };end;procedure main();write(1);f();write(2);end";
        GoalHouse x = whole(source);
        due("told 0", x.told(0, 0), 2);
        due("told 3", x.told(0, 3), 1);
        due("told 4", x.told(0, 4), source.indexOf("+"));
        due("&pos at the act", x.told(0, 8), 4);
        due("&subject at the act", x.told(0, 9), 7);
        due("shown", show(x, 4, 0, 0), "\"subject\"");
        due("calls of the act", x.told(0, 10), 2);
        due("out", out(x, 0), "1\n");
        int steps = x.told(0, 1);
        due("step", x.step(0, 10), 2);
        due("step does nothing", x.told(0, 1), steps);
        feed(x, "1");
        due("no goal", x.goal(0), -2);
        due("its tape stays", x.cut(0), 1);
        due("no next", x.next(0, 1), -2);
        due("back", x.back(0, 5), 1);
        due("no break now", x.told(0, 3), 0);
        due("no place now", x.told(0, 4), -2);
        due("end", x.end(0), 5);
    }

    // ---- what is MADE

    private static void made(String body, int bytes) {
        GoalHouse x = body("x := \"abc\"; y := &null; " + body);
        due(body + " ends", x.told(0, 0), 0);
        due(body + " makes", x.told(0, 7), bytes);
    }

    private static void bytesMade() {
        made("x", 0);
        made("\"a\" || \"b\"", 2);
        made("12 || 'ba' || \"\"", 8);
        made("\"\" || \"\"", 0);
        made("x[2] := \"-\"", 3);
        made("x[2] := \"\"", 2);
        made("x[2:2] := 123", 6);
        made("every x[2] <- \"-+\"", 4 + 3);
        made("x[1] :=: x[3]", 6);
        made("x[1:3][1] := \"x\"", 3);
        made("x ||:= \"d\"", 4);
        made("x[1] ||:= \"d\"", 2 + 4);
        made("x[1]; x[1:3]; x[1+:1]; .x[2]; \"abc\"[2]", 0);
        made("123[2]", 3);
        made("123[1:3]", 3);
        made("123[1:1]", 3);
        made("123[5]", 0);
        made("'cab'[1]", 3);
        made("!123 & ?123 & !'ab' & ?'ab'", 0);
        made("*123; 123 === 123; 12 << 13", 2);
        made("13 << 12", 0);
        made("\"13\" == 13 == 'ba' | 13 == \"13\"", 2);
        made("'ab' ~== 'c'", 1);
        made("12 ? 1", 2);
        made("'abc' ? tab(2)", 3);
        made("x ? (tab(2) || &subject)", 4);
        made("every (1 | 22) ? 1", 3);
        made("&subject := 123", 3);
        made("&subject := x", 0);
        made("x ? (=\"a\" & tab(3) & move(1) & &subject[2:3])", 0);
        made("12 ? &subject[1]", 2);
        made("find(1, 123) & any('1', 123) & many(1, 11) & match(1, 11) & upto(1, 11) & bal('1', , , 1)", 0);
        made("write(123, 'abc'); writes(12)", 0);
        made("image(x)", 5);
        made("image(12)", 2);
        made("image('ab')", 4);
        made("image(&null)", 5);
        made("image([])", 9);
        made("type(x); proc(\"main\"); copy(x); number(12) | 1", 0);
        made("text(12)", 2);
        made("text('ab')", 2);
        made("text(x)", 0);
        made("text([]) | 1", 0);
        made("whole(x) | set(x) | set(12)", 0);
        made("left(x, 5); right(12, 3); center(x, 0)", 8);
        made("left(x, 2)", 2);
        made("trim(x)", 0);
        made("trim(\"ab  \")", 0);
        made("trim(1234)", 4);
        made("trim(1234, '4')", 4);
        made("repl(x, 3)", 9);
        made("repl(x, 0)", 0);
        made("repl(12, 2)", 4);
        made("reverse(x); reverse(12)", 5);
        made("map(x); map(12)", 5);
        made("char(65)", 1);
        made("ord(5)", 0);
        made("put([], x, 12); insert(table(), 12, 13); sort([12, 'ab'])", 0);
        made("&error := 2; repl(x, 167) | 1; x[1] := repl(\"y\", 500)", 500);
        // What op := would assign stays MADE.
        made("&error := 1; &pos ||:= \"x\"", 2);
        made("&error := 1; y := table(repl(\"z\", 300)); y[1][1:1] ||:= repl(\"x\", 250)", 300 + 250 + 250);
        String full = "x := repl(\"a\", 500); every 1 to 199 do repl(x, 1); writes(1); x[1:1] := \"\"; writes(2)";
        GoalHouse x = body(full);
        GoalHouse last = body("s := repl(\"ab\", 125); every 1 to 199 do repl(\"x\", 500); t := s || \"\"; write(t[-1], *t, t == s)");
        due("the last byte of 100000", out(last, 0), "b250" + many("ab", 125) + "\n");
        due("made", last.told(0, 7), 100000);
        last = body("every 1 to 199 do repl(\"x\", 500); repl(\"x\", 499); char(65); write(1); char(66)");
        due("100000 are not too many", out(last, 0), "1\n");
        due("100001 are", last.told(0, 3), 13);
        due("100000 are not too many", out(x, 0), "1");
        due("100500 are", x.told(0, 3), 13);
        due("made", x.told(0, 7), 100000);
        due("told at", x.told(0, 4), 18 + full.lastIndexOf(":="));
    }

    // ---- cells and things

    private static void uses(String body, int things, int cells) {
        GoalHouse x = whole("record r(a, b);record e();procedure f(a);local b;static c;d := 1;return a;end;procedure g(a, b[]);return *b;end;procedure k();end;"
            + "procedure main();x := [1, 2, 3];y := &null;" + body + ";end");
        due(body + " ends", x.told(0, 0), 0);
        due(body + " things", x.told(0, 5) - 1, things);
        due(body + " cells", x.told(0, 6) - 5, cells);
    }

    private static void usedUp() {
        uses("1", 0, 0);
        uses("f()", 0, 3);
        uses("f(1, 2, 3); f()", 0, 6);
        uses("g()", 1, 2);
        uses("g(1)", 1, 2);
        uses("g(1, 2, 3)", 1, 4);
        uses("g ! x", 1, 4);
        uses("k()", 0, 0);
        uses("r(); r(1); r(1, 2, 3)", 3, 6);
        uses("e()", 1, 0);
        uses("[]; [1]; [,]", 3, 3);
        uses("x ||| x", 1, 6);
        uses("x[1:3]", 1, 2);
        uses("x[2:2]", 1, 0);
        uses("create 1", 1, 2);
        uses("y := create 1; ^y; ^y", 3, 6);
        uses("list(5); list()", 2, 5);
        uses("group(); group(x); group([1, 1])", 4, 6);
        uses("table(); table(1)", 2, 0);
        uses("y := table(); y[1]; y[1] := 2; y[1] := 3; y[2] <- 5; insert(y, 2); insert(y, 3)", 1, 3);
        uses("y := table(); y[1] := 2; delete(y, 1); y[1] := 2; delete(y, 7)", 1, 2);
        uses("y := group(); insert(y, 1); insert(y, 1); delete(y, 1); insert(y, 1)", 1, 2);
        uses("put(x, 1, 2); put(x); push(x, 3); push(x)", 0, 5);
        uses("get(x); pull(x)", 0, 0);
        uses("copy(x); copy(r()); copy(group(x)); copy(12); copy(\"a\")", 5, 3 + 2 + 2 + 3 + 3);
        uses("y := table(); y[1] := 2; copy(y)", 2, 2);
        uses("y := create 1; copy(y)", 1, 2);
        uses("sort(x); sort(group(x))", 3, 9);
        uses("y := table(); y[1] := y[2] := 3; sort(y)", 1 + 3, 2 + 6);
        uses("reverse(x)", 1, 3);
        uses("y := group(x); y ++ y; y -- y; y ** y", 4, 9);
        uses("!x; ?x; x[1]; x[1] := 5; x[1] :=: x[2]", 0, 0);
        // &error: an act that BREAKS has done nothing.
        uses("&error := 1000; r([] + 1); f(1 + []); put(x, [] + 1); list(501)", 3, 0);
    }

    private static void limits() {
        GoalHouse x = body("every 1 to 12 do list(500)");
        due("6000 cells", x.told(0, 6), 6000);
        due("are not too many", x.told(0, 0), 0);
        for (String more : new String[] {"list(1)", "[1]", "put(x, 1)", "push(x)", "x ||| [] ||| [1]", "x[1:2]", "create 1", "group([]) & insert(g, 1)", "t[1] := 2", "insert(t, 1)", "f()", "r()",
            "copy(x)", "sort(x)", "reverse(x)", "group(x)", "g ++ group(x)", "x |||:= x"}) {
            x = whole("global x, g, t;record r(a);procedure f(a);end;procedure main();x := [1];t := table();g := group();local_ := 1;every 1 to 11 do list(500);list(498);" + more + ";end");
            due(more + " with 6000 cells", x.told(0, 3), 14);
            due(more + ": cells stay", x.told(0, 6), 6000);
            due(more + ": things stay", x.told(0, 5), more.startsWith("group([])") ? 17 : more.startsWith("x ||| []") ? 16 : 15);
        }
        for (String none : new String[] {"list()", "[]", "table()", "group()", "t[1]", "get(x)", "e()", "k()", "x[1:1]", "copy([])", "sort([])", "x[1] := 5", "g -- g", "delete(t, 1)"}) {
            x = whole("global x, g, t;record e();procedure k();end;procedure main();x := [1];t := table();g := group();local_ := 1;every 1 to 11 do list(500);list(498);" + none + ";end");
            due(none + " with 6000 cells", x.told(0, 3), 0);
            due(none + ": ended", x.told(0, 0), 0);
        }
        // As many as there is room for.
        String[] fits = {"list(1)", "1", "[1]", "1", "put(x, 1)", "1", "push(x)", "1", "x ||| []", "1", "x[1:2]", "1", "create 1", "1", "insert(g, 1)", "1", "t[1] := 2", "1", "t[1] :=: x[1]", "1", "t[1] <- 5", "1",
            "insert(t, 1)", "1", "f()", "1", "r()", "1", "copy(x)", "1", "sort(x)", "1", "reverse(x)", "1", "group(x)", "1", "x |||:= []", "1", "h()", "1", "h(1)", "2", "put(x, 1, 2)", "2", "p ||| x", "3", "p[1:3]", "2",
            "group(p)", "2", "sort(p)", "2", "^c", "1", "copy(u)", "1", "sort(u)", "3"};
        for (int i = 0; i < fits.length; i += 2) {
            int want = Integer.parseInt(fits[i + 1]);
            for (int room = want - 1; room <= want; room++) {
                x = whole("global x, g, t, p, c, u;record r(a);procedure f(a);end;procedure h(a[]);end;procedure main();x := [1];p := [1, 2];t := table();u := table();u[1] := 1;g := group();local_ := 1;c := create 1;"
                    + "every 1 to 11 do list(500);list(" + (494 - room) + ");every " + fits[i] + ";end");
                due(fits[i] + " with room for " + room, x.told(0, 3), room < want ? 14 : 0);
                due(fits[i] + " cells", x.told(0, 6), room < want ? 6000 - room : 6000);
            }
        }
        String[] ones = {"[]", "list(500)", "table()", "group()", "create 1", "x ||| x", "copy(x)", "sort(x)", "reverse(x)", "r()", "x[1:1]", "h()", "g ++ g", "^c", "copy(g)", "copy(t)", "group(x)"};
        for (String one : ones) {
            for (int things = 999; things <= 1000; things++) {
                x = whole("global x, g, t, c;record r(a);procedure h(a[]);end;procedure main();g := group();t := table();x := [];c := create 1;every 1 to " + (things - 4) + " do [];every " + one + ";end");
                due(one + " with " + things + " things", x.told(0, 3), things == 1000 ? 15 : 0);
                due(one + ": things", x.told(0, 5), 1000);
            }
        }
        for (String none : new String[] {"t[1] := 2", "insert(t, 1)", "insert(g, 1)", "put(x, 1)", "push(x)", "f()", "t[1] <- 2", "copy(c)", "delete(g, 1)"}) {
            x = whole("global x, g, t, c;procedure f(a);end;procedure main();g := group();t := table();x := [];c := create 1;every 1 to 996 do [];every " + none + ";end");
            due(none + " with 1000 things", x.told(0, 3), 0);
        }
        x = body("t := table(); t[1] := 1; t[2] := 2; every 1 to 996 do []; sort(t)");
        due("three lists fit", x.told(0, 3), 0);
        due("things then", x.told(0, 5), 1000);
        x = body("t := table(); t[1] := 1; t[2] := 2; every 1 to 997 do []; sort(t)");
        due("one of three lacks", x.told(0, 3), 15);
        due("none is made", x.told(0, 5), 998);
        x = body("t := table(); t[1] := 1; t[2] := 2; every 1 to 997 do []; &error := 1; sort(t) | write(&number); every 1 to 2 do []; write(1)");
        due("two of three", out(x, 0), "15\n1\n");
        x = body("every 1 to 1000 do []");
        due("1000 things", x.told(0, 5), 1000);
        due("are not too many", x.told(0, 0), 0);
        for (String more : new String[] {"[]", "list(500)", "table()", "group()", "create 1", "x ||| x", "copy(x)", "sort(x)", "reverse(x)", "r()", "x[1:1]", "f()", "g ++ g"}) {
            x = whole("global x, g;record r(a);procedure f(a[]);end;procedure main();g := group();x := [];every 1 to 998 do [];" + more + ";end");
            due(more + " with 1000 things", x.told(0, 3), 15);
            due(more + ": things stay", x.told(0, 5), 1000);
            due(more + ": cells stay", x.told(0, 6), 0);
        }
        // 14 and 15 are asked when all else is right, 15 first.
        String full = "procedure main();every 1 to 987 do [];every 1 to 12 do list(500);table();";
        x = whole(full + "list(501);end");
        due("20 ahead of 15", x.told(0, 3), 20);
        x = whole(full + "list(1);end");
        due("15 ahead of 14", x.told(0, 3), 15);
        x = whole(full + "[] ||| 1;end");
        due("15 of what is begun first", x.told(0, 3), 15);
        x = whole("procedure f(a);return f(1);end;procedure main();every 1 to 11 do list(500);list(441);f(1);end");
        due("16 ahead of 14", x.told(0, 3), 16);
        x = whole("procedure f(a);return f(1);end;procedure main();every 1 to 11 do list(500);list(442);f(1);end");
        due("14 when there is no room for one more", x.told(0, 3), 14);
        x = body("t := [1]; every 1 to 11 do list(500); list(498); get(t); put(1)");
        due("5 ahead of 14", x.told(0, 3), 5);
        x = whole("global t;procedure main();t := table(\"ab\");every 1 to 12 do list(500);t[1][1] := [];end");
        due("2 ahead of 14", x.told(0, 3), 2);
        x = whole("global t;procedure main();t := table(repl(\"a\", 500));every 1 to 12 do list(500);t[1][1] := \"xy\";end");
        due("13 ahead of 14", x.told(0, 3), 13);
        x = whole("global t;procedure main();t := table(repl(\"a\", 500));every 1 to 12 do list(500);t[1][1] := \"x\";end");
        due("then 14", x.told(0, 3), 14);
        due("and nothing is MADE by it", x.told(0, 7), 500);
        due("no element came", x.thing(0, 1, 1), 0);
        x = whole("global t;procedure main();t := table(12);every 1 to 12 do list(500);t[1] |||:= [];end");
        due("5 of op :=", x.told(0, 3), 5);
        x = whole("global t;procedure main();t := table(\"a\");every 1 to 12 do list(500);t[1] ||:= \"bc\";end");
        due("14 of op :=", x.told(0, 3), 14);
        due("what op := would assign stays MADE", x.told(0, 7), 3);
        x = whole("global t;procedure main();t := table([]);every 1 to 12 do list(500);t[1] |||:= [];end");
        due("14 of op := with a list", x.told(0, 3), 14);
        due("the list is there", x.told(0, 5), 1 + 1 + 12 + 2);
        x = body("s := repl(\"a\", 499); every 1 to 12 do write(s); writes(\"b\"); s := 1");
        due("6001 bytes", x.told(0, 3), 17);
        due("OUT stays", x.told(0, 2), 6000);
        x = body("s := repl(\"a\", 499); every 1 to 11 do write(s); writes(s); write(12)");
        due("6002 bytes", x.told(0, 3), 17);
        due("nothing of them came", x.told(0, 2), 5999);
        x = body("s := repl(\"a\", 499); every 1 to 11 do write(s); writes(s); writes(1); writes(); writes(\"\")");
        due("6000 bytes", x.told(0, 3), 0);
        x = body("s := repl(\"a\", 499); every 1 to 12 do write(s); stop()");
        due("stop", x.told(0, 3), 17);
        due("did not end", x.told(0, 0), 2);
        x = body("write(1, 2, [])");
        due("a wrong argument", x.told(0, 3), 2);
        due("nothing written", x.told(0, 2), 0);
    }

    /** 40000 cells in all runs that the house ever had together. */
    private static void cellsOfAll() {
        GoalHouse x = new GoalHouse();
        read(x, "procedure main();every 1 to 12 do list(500);end");
        read(x, "procedure k();return 1;end;record e();procedure main();&error := 1000;every 1 to 8 do list(500);writes(&error);list(1);writes(&error);"
            + "list() & [] & group() & k() & e() & (create 1) & copy([]) & [][1:1] & table() & writes(&error);end");
        read(x, "global c;record e();procedure k();return 1;end;procedure n();local_ := 1;end;procedure main(a, b);&error := 1000;"
            + "list();writes(1000 - &error);[];writes(1000 - &error);group();writes(1000 - &error);k();writes(1000 - &error);e();writes(1000 - &error);create 1;writes(1000 - &error);"
            + "n();writes(1000 - &error);writes(table() & 1000 - &error, &number);t := table();t[1] := 5;writes(1000 - &error);t[1];&pos := 1;writes(1000 - &error);end");
        for (int i = 0; i < 3; i++) {
            x.run(0, 0);
            due("a run of 6000 cells", x.step(0, 1000), 0);
            due("its cells", x.told(0, 6), 6000);
            due("6000 again", x.back(0, 1000), 0);
            due("its cells again", x.told(0, 6), 6000);
            x.end(0);
        }
        x.run(1, 0);
        due("a run to 40000", x.step(0, 1000), 0);
        due("its cells", x.told(0, 6), 4000);
        due("40001 are too many, none is not", out(x, 0), "1000999999");
        x.run(2, 0);
        due("main's are there whatever 14 says", x.told(1, 6), 3);
        due("a run beyond 40000", x.step(1, 1000), 0);
        due("all that asks for cells BREAKS 14, but table()", out(x, 1), "1234567714" + "88");
        due("no more cells", x.told(1, 6), 3);
        due("goals too", outcome(x, 1, "(&error := 0) & []"), "break 14");
        due("goals too", outcome(x, 1, "table()"), "1");
    }

    private static String outcome(GoalHouse x, int run, String goal) {
        feed(x, goal);
        x.goal(run);
        int t = x.next(run, 100);
        return t == 2 ? "break " + x.told(run, 3) : "" + t;
    }

    public static void main(String[] args) {
        numbers();
        broken();
        bytesMade();
        usedUp();
        limits();
        cellsOfAll();
        end();
    }
}
