/** Tests of GoalHouse by promises; prints each answer that is not the one that is due. */
public final class GoalHouseTest extends Check {
    private GoalHouseTest() {
    }

    // ---- promises 1 to 3

    private static void tape() {
        GoalHouse x = new GoalHouse();
        due("fault ahead of all", x.fault(0), 0);
        due("place ahead of all", x.fault(1), -2);
        due("no program", x.count(0, 0), -1);
        due("no run", x.told(0, 0), -1);
        due("nothing shown", x.shown(0), -1);
        due("cut of an empty tape", x.cut(1), -1);
        due("cut of nothing", x.cut(0), 0);
        due("feed", x.feed(1, 2, 3, 4, 5), 20);
        due("cut below 0", x.cut(-1), -1);
        due("cut", x.cut(7), 13);
        due("cut of too much", x.cut(14), -1);
        for (int i = 0; i < 399; i++) {
            x.feed(0, 0, 0, 0, 0);
        }
        due("tape nearly full", x.cut(0), 7993);
        due("feed too much", x.feed(0, 0, 0, 0, 0), -3);
        due("cut to 7980", x.cut(13), 7980);
        due("feed to the end", x.feed(0, 0, 0, 0, 0), 8000);
        due("feed on a full tape", x.feed(0, 0, 0, 0, 0), -3);
    }

    // ---- promises 4 and 5

    private static void words() {
        fault("", 0, 0);
        fault("  # a note\n;;", 0, 0);
        fault("procedure main()\nend", 2, 17);
        fault("procedure main();end", 0, 0);
        fault("global a23456789012345678901", 1, 27);
        fault("global a2345678901234567890", 0, 0);
        fault("procedure main(); " + many("1", 61) + ";end", 1, 78);
        fault("procedure main(); " + many("1", 60) + ";end", 0, 0);
        fault("procedure main(); 1r0;end", 1, 18);
        fault("procedure main(); 37r0;end", 1, 18);
        fault("procedure main(); 36rzZ9;end", 0, 0);
        fault("procedure main(); 00002r102;end", 1, 26);
        fault("procedure main(); 2r;end", 1, 20);
        fault("procedure main(); 36r" + many("z", 60) + ";end", 1, 18);
        fault("procedure main(); 36r" + many("0", 61) + ";end", 1, 81);
        fault("procedure main(); \"a", 1, 20);
        fault("procedure main(); \"a\n\"", 1, 20);
        fault("procedure main(); \"a\\q\";end", 1, 21);
        fault("procedure main(); \"a\\x4g\";end", 1, 23);
        fault("procedure main(); \"a\\x4", 1, 23);
        fault("procedure main(); \"" + many("a", 200) + "\";end", 0, 0);
        fault("procedure main(); \"" + many("a", 201) + "\";end", 1, 219);
        fault("procedure main(); \"" + many("a", 200) + "\\n\";end", 1, 219);
        fault("procedure main(); \"" + many("a", 200) + "\\q\";end", 1, 220);
        fault("procedure main(); $;end", 1, 18);
        fault("procedure main(); &subject := 1;end", 0, 0);
        fault("procedure main(); a &pos1;end", 2, 18 + 2);
        fault("procedure main(); a &posx;end", 0, 0);
    }

    private static void places() {
        fault("global a\nglobal b", 0, 0);
        fault("global a global b", 2, 9);
        fault("global a,", 2, 9);
        fault("global a; global b, a", 3, 20);
        fault("record r(x, x)", 3, 12);
        fault("record r(a,b,c,d,e,f,g,h,i)", 4, 25);
        fault("procedure f(a);local a;end", 3, 21);
        fault("procedure f(a[], b);end", 2, 15);
        fault("procedure f([]);end", 2, 12);
        fault("procedure f(a);static b;local c;initial d;end", 0, 0);
        fault("procedure f(a);initial d end", 2, 25);
        fault("procedure f(a);initial d;local c;end", 2, 25);
        fault("procedure f(); 1 2;end", 2, 17);
        fault("procedure f(); (1, 2);end", 2, 17);
        fault("procedure f(); x[];end", 2, 17);
        fault("procedure f(); x[1:];end", 2, 19);
        fault("procedure f(); case 1 of { default : 1; default : 2 };end", 3, 40);
        fault("procedure f(); case 1 of { default 1 };end", 2, 35);
        fault("procedure f(); break;end", 5, 15);
        fault("procedure f(); while break do 1;end", 5, 21);
        fault("procedure f(); while 1 do break break;end", 5, 32);
        fault("procedure f(); repeat create next;end", 5, 29);
        fault("procedure f(); create return;end", 5, 22);
        fault("procedure f(); initial fail;end", 5, 23);
        fault("procedure f(); every suspend 1 do 2 do 3;end", 0, 0);
        fault("procedure f(); suspend do 3;end", 2, 23);
        fault("procedure f(); 1 to 2 by 3 by 4;end", 2, 27);
        fault("procedure f(); 1 by 2;end", 2, 17);
        fault("procedure f(); 1 to if a then b by 2;end", 0, 0);
        fault("procedure f(); a.1;end", 2, 17);
        fault("procedure f(); " + many("(", 60) + "1" + many(")", 60) + ";end", 0, 0);
        fault("procedure f(); " + many("(", 61) + "1", 4, 75);
        fault("procedure f(); " + many("~", 61) + "1", 4, 75);
        fault("procedure f(); " + many("~", 60) + "1;end", 0, 0);
        fault("procedure f(); " + many("~", 60) + "fail;end", 4, 75);
        fault("procedure f(); " + many("a:=", 60) + "1;end", 0, 0);
        fault("procedure f(); " + many("a:=", 61) + "1;end", 4, 15 + 60 * 3 + 1);
        fault("procedure f(); " + many("a+", 400) + "1;end", 0, 0);
        fault("procedure f(); " + many("a;", 1500) + "end", 0, 0);
        fault("procedure f(); " + many("a;", 1501) + "end", 4, 15 + 3000);
        StringBuilder b = new StringBuilder("procedure f();");
        StringBuilder c = new StringBuilder("procedure g();");
        for (int i = 0; i < 61; i++) {
            b.append(i == 60 ? "" : "a" + i + ";");
            c.append("a" + i + ";");
        }
        fault(b + "end", 0, 0);
        fault(b + "end;" + c + "end", 4, b.length() + 4 + 10);
        fault(c + "end;global a7", 0, 0);
        StringBuilder d = new StringBuilder("global b0");
        for (int i = 1; i < 60; i++) {
            d.append(",b" + i);
        }
        fault(d.toString(), 0, 0);
        fault(d + ",b60", 4, d.length() + 1);
        StringBuilder e = new StringBuilder();
        for (int i = 0; i < 40; i++) {
            e.append("procedure p" + i + "();end;");
        }
        fault(e.toString(), 0, 0);
        fault(e + "procedure p40();end", 4, e.length() + 10);
        goalFault("", 2, 0);
        goalFault("1;", 2, 1);
        goalFault("return 1", 5, 0);
        goalFault("1 2", 2, 2);
    }

    private static void sources() {
        GoalHouse x = new GoalHouse();
        for (int i = 0; i < 4; i++) {
            due("program " + i, read(x, "global a"), i);
        }
        feed(x, "global q");
        due("a fifth program", x.source(), -3);
        due("its tape stays", x.cut(0), 8);
        due("drop", x.drop(2), 0);
        due("the free number", x.source(), 2);
        due("dropped twice", x.drop(4), -1);
        due("fault of what", x.fault(2), -1);
        due("fault of what", x.fault(-1), -1);
        due("the tape is empty", x.cut(1), -1);
    }

    // ---- promises 7 to 11

    private static void programs() {
        GoalHouse x = new GoalHouse();
        read(x, "global a, bb\nrecord p(x, y)\nprocedure f(u, v[])\n local z\n static n\n initial n := 1\n"
                + " q := u + ww\n return p(1)\nend\nprocedure main()\n f(,a[1], [])\n { }; (); &null; x.y; 'a'; \"b\"\nend");
        due("procedures", x.count(0, 0), 2);
        due("records", x.count(0, 1), 1);
        due("globals", x.count(0, 2), 2);
        due("count of what", x.count(0, 5), -1);
        due("count of none", x.count(1, 0), -1);
        due("name", x.name(0, 2, 1, 1), 'b');
        due("name's end", x.name(0, 2, 1, 2), -1);
        due("procedure's name", x.name(0, 0, 1, 0), 'm');
        due("record's name", x.name(0, 1, 0, 0), 'p');
        due("name of kind 3", x.name(0, 3, 0, 0), -1);
        due("list", x.part(0, 0, 0), 2);
        due("locals with the list", x.part(0, 0, 1), 5);
        due("statics", x.part(0, 0, 2), 1);
        due("ends with [ ]", x.part(0, 0, 3), 1);
        due("does not", x.part(0, 1, 3), 0);
        due("fields", x.part(0, 0, 4), 2);
        due("fields of none", x.part(0, 1, 4), -1);
        due("part 5", x.part(0, 0, 5), -1);
        GoalHouse y = new GoalHouse();
        read(y, "procedure f();n := 1; return p(1);end;procedure main();f(,a[1], []);{ }; (); &null; x.y; 'a'; \"b\"; not 1;end");
        int[] due = {0, 5, 1, 12, 0, 6, 1, 0, 6, 0, 7, 1, 9, 10, 11, 4, 0, 8, 3, 2, 5, 1};
        for (int i = 0; i < due.length; i++) {
            due("kind of node " + i, y.node(0, i, 2), due[i]);
        }
        due("nodes of this", y.count(0, 3), due.length);
        due("a node's place", y.node(0, 1, 0), 16);
        due("a node's procedure", y.node(0, 6, 1), 0);
        due("a node's procedure", y.node(0, 7, 1), 1);
        due("node of none", y.node(0, due.length, 0), -1);
        due("node what", y.node(0, 0, 3), -1);
        due("written below", y.written(0, -1), -1);
        due("written above", y.written(0, y.count(0, 4)), -1);
    }

    private static void printed() {
        writtenAs("a+b*c", "a + (b * c)");
        writtenAs("-x^2", "(-x) ^ 2");
        writtenAs("- -x", "-(-x)");
        writtenAs("not x = y", "(not x) = y");
        writtenAs("not (x = y)", "not (x = y)");
        writtenAs("a:=b:=c", "a := (b := c)");
        writtenAs("1 to 2 by 3 to 4", "(1 to 2 by 3) to 4");
        writtenAs("f(,a,)", "f(, a,)");
        writtenAs("[ , ]", "[,]");
        writtenAs("()", "()");
        writtenAs("{ ; ; a ; }", "{ a }");
        writtenAs("{}", "{ }");
        writtenAs("case x of { ; 1: 2; default: 3; }", "case x of { 1 : 2; default : 3 }");
        writtenAs("if a then if b then c else d", "if a then (if b then c else d)");
        writtenAs("if (if a then b) then c", "if (if a then b) then c");
        writtenAs("(if a then b) + 1", "(if a then b) + 1");
        writtenAs("f(if a then b)[if c then d]", "f(if a then b)[if c then d]");
        writtenAs("(a + b)(c).d[1+:2]", "(a + b)(c).d[1 +: 2]");
        writtenAs("every a do {b}", "every a do { b }");
        writtenAs("repeat break", "repeat (break)");
        writtenAs("007 + 16rfF", "7 + 255");
        writtenAs("\"a\\\"'\\\\\\n\\t\\x07\\xFf\"", "\"a\\\"'\\\\\\n\\t\\x07\\xff\"");
        writtenAs("'ba\"\\'a'", "'\"\\'ab'");
        writtenAs("a ? b | c", "a ? (b | c)");
        writtenAs("|a \\ 3", "(|a) \\ 3");
        writtenAs("suspend a do b", "suspend a do b");
        writtenAs("x ||:= y ||| z", "x ||:= (y ||| z)");
        GoalHouse x = new GoalHouse();
        read(x, "record r( );;global a,b\nprocedure f(a, b[]);static s;local z,y\nstatic t\ninitial { a }\n b;end");
        due("written whole", written(x, 0), "record r();\nglobal a, b;\nprocedure f(a, b[]);\n   local z, y;\n   static s, t;\n"
                + "   initial { a };\n   b;\nend\n");
    }

    // ---- runs: promises 12 to 15

    private static void steps() {
        GoalHouse x = new GoalHouse();
        read(x, "procedure main();write(1 + 2);end");
        read(x, "procedure f();end");
        due("run of none", x.run(2, 0), -1);
        due("run without main", x.run(1, 0), -2);
        feed(x, "abc");
        due("run", x.run(0, -1), 0);
        due("its tape is gone", x.cut(1), -1);
        due("goes on", x.told(0, 0), 1);
        due("no steps", x.told(0, 1), 0);
        due("calls from run() on", x.told(0, 10), 1);
        due("random", x.told(0, 12), 0x7fffffff);
        due("events", x.told(0, 13), 1);
        due("step 0", x.step(0, 0), -1);
        due("step 4001", x.step(0, 4001), -1);
        due("step of none", x.step(1, 1), -1);
        due("goal of one that goes on", x.goal(0), -2);
        due("a step", x.step(0, 1), 1);
        due("call begun", x.counted(0, 1, 0), 1);
        due("name not begun", x.counted(0, 0, 0), 0);
        due("three steps", x.step(0, 3), 1);
        due("out", x.told(0, 2), 0);
        due("the last step", x.step(0, 1), 0);
        due("steps", x.told(0, 1), 5);
        due("out", out(x, 0), "3\n");
        due("calls when ended", x.told(0, 10), 0);
        due("ended", x.step(0, 1), 0);
        due("back", x.back(0, 0), 1);
        due("back to no steps", x.told(0, 1), 0);
        due("back to no out", x.told(0, 2), 0);
        due("back with 4", x.back(0, 4), 1);
        due("back with 5", x.back(0, 5), 0);
        due("back with 4001", x.back(0, 4001), -1);
        due("back below 0", x.back(0, -1), -1);
        due("a second run", x.run(0, 1), 1);
        due("a third run", x.run(0, 1), 2);
        feed(x, "abc");
        due("a fourth run", x.run(0, 1), -3);
        due("its tape stays", x.cut(0), 3);
        due("end", x.end(1), 0);
        due("end again", x.end(1), -1);
        due("run again", x.run(0, 1), 1);
        due("drop with its runs", x.drop(0), 3);
        due("runs are gone", x.told(0, 0), -1);
        GoalHouse y = new GoalHouse();
        read(y, "procedure main();end");
        y.run(0, 0);
        due("needs no step, run", y.told(0, 0), 1);
        due("calls", y.told(0, 10), 1);
        due("needs no step, back", y.back(0, 0), 0);
        due("failed", y.event(0, 1, 0), 4);
        GoalHouse z = new GoalHouse();
        read(z, "procedure main();repeat 1;end");
        z.run(0, 0);
        for (int i = 0; i < 9; i++) {
            due("4000 steps", z.step(0, 4000), 1);
        }
        due("3999 steps", z.step(0, 3999), 1);
        due("2 left of all", z.step(0, 2), -3);
        due("back has no more", z.back(0, 2), -3);
        due("1 left of all", z.step(0, 1), 1);
        due("none left", z.step(0, 1), -3);
        due("back with none", z.back(0, 0), 1);
        due("told after back", z.told(0, 1), 0);
    }

    private static void limits() {
        GoalHouse x = whole("procedure f(n);return f(n + 1);end;procedure main();f(2);end");
        due("calls in one another", x.told(0, 0), 2);
        due("break of calls", x.told(0, 3), 16);
        due("depth then", x.told(0, 10), 60);
        due("place of the call", x.told(0, 4), 23);
        due("events", x.told(0, 13), 60);
        x = body("c := create 1; c := create @c; x := 0; while (x +:= 1) < 70 do c := create @c; @c");
        due("parts", x.told(0, 3), 16);
        x = body("repeat list(500)");
        due("cells", x.told(0, 3), 14);
        due("cells there", x.told(0, 6), 6000);
        x = body("repeat list()");
        due("things", x.told(0, 3), 15);
        due("things there", x.told(0, 5), 1000);
        x = body("repeat repl(\"a\", 500)");
        due("bytes", x.told(0, 3), 13);
        due("bytes made", x.told(0, 7), 100000);
        x = body("repl(\"ab\", 251)");
        due("long text", x.told(0, 3), 13);
        x = body("s := repl(\"a\", 499); repeat write(s)");
        due("out", x.told(0, 3), 17);
        due("out bytes", x.told(0, 2), 6000);
        x = whole("global c;procedure main();@(c := create @c);end");
        due("active part", x.told(0, 3), 18);
        due("its calls", x.told(0, 10), 1);
    }

    private static void breaks() {
        String[] bodies = {"1 + \"x\"", "1", "\"a\" || []", "2", "~[]", "3", "1 := 2", "4", "1 ||| 2", "5", "&null(1)", "6", "@1", "7",
            "[].x", "8", "member(1, 2)", "9", "*&null", "10", "1 / 0", "11", "10 ^ 60", "12", "&random := -1", "20", "\"none\"(1)", "6",
            "1 % 0", "11", "1 to 2 by 0", "11", "x \\ -1", "20", "repl(1, -1)", "20", "char(256)", "20", "ord(12)", "20",
            "map(\"a\", \"ab\", \"c\")", "20", "list(501)", "20", "&error := 1001", "20", "any()", "3", "find()", "2", "min()", "1",
            "sort(1)", "10", "key(group())", "9", "get(1)", "5", "!main", "10", "?&null", "10", "table()[1:2]", "10", "write ! 1", "10",
            "^1", "7", "left(\"a\", 501)", "20", "999999999999999999999999999999999999999999999999999999999999 + 1", "12",
            "group(1)", "5", "group() ++ 'a'", "3", "&null < 1", "1", "1 << &null", "2", "&number := 1", "4", "1 :=: x", "4", "x :=: 1", "4"};
        for (int i = 0; i < bodies.length; i += 2) {
            GoalHouse x = body(bodies[i]);
            due(bodies[i] + " is broken", x.told(0, 0), 2);
            due(bodies[i] + " breaks", x.told(0, 3), Integer.parseInt(bodies[i + 1]));
        }
        GoalHouse x = body("&error := 2; (1 + \"x\") | write(&error, &number, image(&value)); 1 / 0 | write(&error, &number, image(&value)); [].y");
        due("allowed", out(x, 0), "11\"x\"\n011&null\n");
        due("then broken", x.told(0, 3), 8);
        due("broken goes on no more", x.step(0, 10), 2);
        due("goal of a broken one", x.goal(0), -2);
        x = body("s := \"abcdef\"; t := \"ab\"; \"xyz\" ? { tab(2); s[5:7] || (s := \"abc\") }");
        due("a section that is gone", x.told(0, 3), 19);
        due("pos at the act", x.told(0, 8), 2);
        due("subject at the act", x.told(0, 9), 3);
    }

    // ---- what expressions give

    private static void expressions() {
        gives("1 to 3", "1 2 3 .");
        gives("3 to 1 by -1", "3 2 1 .");
        gives("1 to 0", ".");
        gives("1 | 2 | &fail | 3", "1 2 3 .");
        gives("(1 to 2) + (10 | 20)", "11 21 12 22 .");
        gives("|(1 to 2) \\ 5", "1 2 1 2 1 .");
        gives("|&fail", ".");
        gives("(1 to 5) \\ (2 | 0 | 1)", "1 2 1 .");
        gives("not 1", ".");
        gives("not &fail", "&null .");
        gives("if 1 then 2 | 3", "2 3 .");
        gives("if &fail then 2", ".");
        gives("if &fail then 2 else 4 | 5", "4 5 .");
        gives("case 2 of { 1 : 5; 3 | 2 : 6 | 7; default : 8 }", "6 7 .");
        gives("case 9 of { default : 8 | 9; 1 : 5 }", "8 9 .");
        gives("case \"1\" of { 1 : 5 }", ".");
        gives("{ 1; 2; 3 | 4 }", "3 4 .");
        gives("{ }", "&null .");
        gives("()", "&null .");
        gives("(1 to 3) & (7 | 8)", "7 8 7 8 7 8 .");
        gives("every 1 to 3", ".");
        gives("repeat break 1 to 3", "1 2 3 .");
        gives("repeat break", "&null .");
        gives("every x := 1 to 9 do if x = 3 then break x | 4", "3 4 .");
        gives("7 / 2 | -7 / 2 | 7 % -2 | -7 % 2", "3 -3 1 -1 .");
        gives("0 ^ 0 | 2 ^ -1 | (-1) ^ 7 | 2 ^ 3 ^ 2", "1 -1 512 .");
        gives("3 < 4 < 5 | 4 < 3", "5 .");
        gives("\"3\" < \"4\"", "4 .");
        gives("3 == \"3\" | 10 << 9", "\"3\" \"9\" .");
        gives("1 === \"1\" | 1 ~=== \"1\"", "\"1\" .");
        gives("'ba' === 'ab' | 'a' === \"a\"", "'ab' .");
        gives("*\"abc\" | *1234 | *'aab' | *[1,2] | *table()", "3 4 2 2 0 .");
        gives("!\"ab\" | !12 | !'ba'", "\"a\" \"b\" \"1\" \"2\" \"a\" \"b\" .");
        gives("/&null | \\&null | /1 | \\1", "&null 1 .");
        gives("'abc' ++ 'cd' | 'abc' -- 'b' | 'abc' ** \"bx\" | *~'a'", "'abcd' 'ac' 'b' 255 .");
        gives("+\" 12 \" | -\"-3\" | .5", "12 3 5 .");
        gives("\"abcd\"[2] | \"abcd\"[-1] | \"abcd\"[0] | \"abcd\"[5] | 123[2]", "\"b\" \"d\" \"2\" .");
        gives("\"abcd\"[2:4] | \"abcd\"[0:2] | \"abcd\"[2+:2] | \"abcd\"[0-:3] | \"abcd\"[3-:3]", "\"bc\" \"bcd\" \"bc\" \"bcd\" .");
        gives("[1,2,3][2:0][1] | [1,2][3] | [1,2][-2]", "2 1 .");
        gives("2(7, 8, 9) | (-1)(7, 8) | 3(1)", "8 8 .");
        gives("\"write\" ! [] | write(1, 2)", "&null 2 .");
        gives("write ! [1, 2, 3] | max ! [3, 5]", "3 5 .");
        gives("image(write) | image(main) | type(main) | proc(\"main\") | proc(\"zz\")",
                "\"built-in write\" \"procedure main\" \"procedure\" procedure main .");
        gives("x := 5", "5 .");
        gives("((x := 1) & (x <- 2) & &fail) | x", "1 .");
        gives("(x := 1) & (y := 2) & (x :=: y) & [x, y][1 to 2]", "2 1 .");
        gives("(x := 1) & (y := 2) & (((x <-> y) & &fail) | x)", "1 .");
        gives("(x := \"abc\") & (x[2] := \"--\") & x", "\"a--c\" .");
        gives("(x := \"abc\") & (every x[2] := (\"12\" | \"3\")) | x", "\"a3c\" .");
        gives("(x := \"abc\") & (((x[2] <- \"12\") & &fail) | x)", "\"abc\" .");
        gives("(x := \"abcdef\") & (x[2:5][2] := \"-\") & x", "\"ab-def\" .");
        gives("(t := table(7)) & (t[1] + (t[1] := 2)) | *t", "4 1 .");
        gives("(t := table(\"ab\")) & (t[1][1] := 9) & t[1] | t[2] | *t", "\"9b\" \"ab\" 1 .");
        gives("(x := [1,2]) & (!x := 5) & x[1 to 2]", "5 2 5 5 .");
    }

    private static void scanned() {
        gives("\"hello\" ? tab(3) || move(2)", "\"hell\" .");
        gives("\"hello\" ? { tab(3); =\"l\" & &pos }", "4 .");
        gives("\"a1b2\" ? tab(upto(&digits))", "\"a\" \"a1b\" .");
        gives("\"abc\" ? ((move(1) & &fail) | &pos)", "1 .");
        gives("find(\"a\", \"banana\")", "2 4 6 .");
        gives("find(\"\", \"ab\")", "1 2 3 .");
        gives("find(\"an\", \"banana\", 3, -1)", "4 .");
        gives("any('ab', \"abc\") | any('c', \"abc\") | many('ab', \"abc\") | match(\"ab\", \"abc\")", "2 3 3 .");
        gives("upto('a', \"banana\", 0, 3)", "4 6 .");
        gives("upto('a', \"banana\", 9)", ".");
        gives("bal('+', , , \"(a+b)+c+d\")", "6 8 .");
        gives("bal(, , , \"a)b\")", "1 2 .");
        gives("\"abc\" ? (&pos := 0)", "4 .");
        gives("\"abc\" ? (&pos := 9)", ".");
        gives("\"abc\" ? pos(1 | 2 | -3)", "1 1 .");
        gives("(\"ab\" | \"cd\") ? tab(2)", "\"a\" \"c\" .");
        gives("\"abc\" ? (&subject := \"x\") & &subject", "\"\" .");
        gives("12 ? tab(0)", "\"12\" .");
        writes("every (\"abc\" ? tab(1 to 4)) do writes(&subject, &pos, \" \")", "1 1 1 1 ");
        writes("procedure_ := \"ab\" ? { \"xy\" ? writes(&subject); writes(&subject) }", "xyab");
        writes("every write(\"abc\" ? (tab(2) | tab(3)))", "a\nab\n");
    }

    private static void library() {
        gives("left(\"abc\", 5, \"12\") | right(\"abc\", 6, \"12\") | center(\"abc\", 6) | center(\"abcdef\", 3)",
                "\"abc12\" \"121abc\" \" abc  \" \"bcd\" .");
        gives("left(\"abc\", 2) | right(\"abc\", 2) | left(\"\", 3, \"\") | left(\"x\")", "\"ab\" \"bc\" \"   \" \"x\" .");
        gives("left(\"a\", 6, \"123\") | right(\"a\", 6, \"123\")", "\"a23123\" \"12312a\" .");
        gives("trim(\"a  \") | trim(\"abc\", 'bc') | trim(\"\")", "\"a\" \"a\" \"\" .");
        gives("repl(\"ab\", 3) | repl(\"\", 1000000000000) | reverse(\"abc\") | reverse(12)", "\"ababab\" \"\" \"cba\" \"21\" .");
        gives("map(\"AbC\") | map(\"abca\", \"aba\", \"123\") | char(10) | ord(\"a\")", "\"abc\" \"32c3\" \"\\n\" 97 .");
        gives("seq(3, -2) \\ 3 | abs(-4) | min(3, \"2\") | max(1) | gcd(-12, 18) | gcd(0, 0) | digits(-123)", "3 1 -1 4 2 1 6 0 6 .");
        gives("type(&null | 1 | \"\" | '' | [] | group() | table() | create 1)",
                "\"null\" \"whole\" \"text\" \"set\" \"list\" \"group\" \"table\" \"part\" .");
        gives("whole(\" -12 \") | whole(\"1x\") | text('ba') | set(12) | number([]) | number(1)", "-12 \"ab\" '12' 1 .");
        gives("whole('+1') | whole(\"\") | whole(\"+\") | whole(\"- 1\") | whole(\"007\")", "1 7 .");
        gives("list(2, 5)[1 to 3] | *list() | put([1], 2, 3)[3] | push([1], 2, 3)[1] | *put([])", "5 5 0 3 3 1 .");
        gives("get([1,2]) | pull([1,2]) | get([])", "1 2 .");
        gives("!group([1, \"1\", 1, &null])", "1 \"1\" &null .");
        gives("!(group([1,2]) ++ group([3,1])) | !(group([1,2]) -- group([2])) | !(group([1,2]) ** group([2,3]))", "1 2 3 1 2 .");
        gives("member(group([1]), 1 | 2) | *delete(group([1,2]), 1) | *insert(group(), 5)", "1 1 1 .");
        gives("(t := insert(insert(table(), \"k\", 5), 1)) & (key(t) | !t | t[\"k\"])", "\"k\" 1 5 &null 5 .");
        gives("!sort([3, \"b\", 'a', 1, &null, \"a\"])", "&null 1 3 \"a\" \"b\" 'a' .");
        gives("!sort(['b', 'ab', '', 'ac', 'a'])", "'' 'a' 'ab' 'ac' 'b' .");
        gives("image([1]) | image(group([1,2])) | image(table()) | image(create 1) | image(\"\\x00\\\"\")",
                "\"list_1(1)\" \"group_3(2)\" \"table_4(0)\" \"part_5(0)\" \"\\\"\\\\x00\\\\\\\"\\\"\" .");
        writes("write(1, \"a\", &null, 'cb'); writes(); writes(2); stop(\"x\"); write(3)", "1abc\n2x\n");
        GoalHouse x = new GoalHouse();
        read(x, "procedure main();while write(image(read()));end");
        feed(x, "ab\n\nc");
        x.run(0, 0);
        x.step(0, 4000);
        due("lines", out(x, 0), "\"ab\"\n\"\"\n\"c\"\n");
        due("made", x.told(0, 7), 3 + 4 + 2 + 3);
        writes("&random := 0; write(?10, \" \", &random); write(?\"abc\", ?[5]); &random := 0; write(?1000000000000)",
                (1 + 12345 / 16 % 10) + " 12345\n" + "abc".charAt((int) (((12345L * 1103515245 + 12345) & 0x7fffffffL) / 16 % 3))
                + "5\n" + (1 + 12345 / 16) + "\n");
    }

    private static void calls() {
        GoalHouse x = whole("global g\nrecord p(a, b)\nprocedure f(x, y[])\n static n\n initial n := 5\n n +:= 1\n"
                + " suspend x | *y do n +:= 10\n return n\nend\nprocedure h(a);local b;/b := 3;return a + b;end\n"
                + "procedure main()\n every writes(f(1, 2, 3), \" \")\n writes(f(9), \" \", h(4, 5), \" \")\n g := p(1)\n g.b := 7\n"
                + " write(g.a === &null | \"one\", g.b, *g, image(g), image(p), type(g))\n h()\nend");
        due("a broken call", x.told(0, 3), 1);
        due("what calls give", out(x, 0), "1 2 26 9 7 one72p_3(2)record pp\n");
        due("the called one's calls", x.told(0, 10), 2);
        due("thing", x.thing(0, 3, 0), 3);
        due("its size", x.thing(0, 3, 1), 2);
        due("its record", x.thing(0, 3, 2), 0);
        due("a list's record", x.thing(0, 1, 2), -2);
        due("no thing", x.thing(0, 4, 0), -1);
        due("thing 0", x.thing(0, 0, 0), -1);
        due("thing what", x.thing(0, 1, 3), -1);
        due("show global", x.show(0, 0, 0, 0), 6);
        due("shown", shown(x), "p_3(2)");
        due("show element", x.show(0, 2, 3, 2), 1);
        due("show no element", x.show(0, 2, 3, 3), -2);
        due("shown stays", shown(x), "7");
        due("show no global", x.show(0, 0, 1, 0), -2);
        due("show no key", x.show(0, 3, 3, 1), -2);
        due("show subject", x.show(0, 4, 0, 0), 2);
        due("show what", x.show(0, 7, 0, 0), -1);
        due("show no result", x.show(0, 1, 0, 0), -2);
        due("event main", x.event(0, 0, 0), 1);
        due("event main's procedure", x.event(0, 0, 1), 2);
        due("event main's calls", x.event(0, 0, 2), 1);
        due("event main's steps", x.event(0, 0, 3), 0);
        due("event f", x.event(0, 1, 1), 0);
        due("event suspended", x.event(0, 2, 0), 3);
        due("event resumed", x.event(0, 3, 0), 5);
        due("event suspended", x.event(0, 4, 0), 3);
        due("event resumed", x.event(0, 5, 0), 5);
        due("event returned", x.event(0, 6, 0), 2);
        due("event's calls", x.event(0, 6, 2), 2);
        due("no event", x.event(0, x.told(0, 13), 0), -1);
        due("event what", x.event(0, 0, 4), -1);
    }

    private static void parts() {
        writes("x := 5; c := create (x | (x := x + 1) | &fail); x := 9; while writes(@c, \" \"); write(*c, x, image(c))", "5 6 29part_1(2)\n");
        writes("x := 1; c := create { x +:= 1; x }; x := 7; writes(@c); d := ^c; writes(@d, @c | \"no\")", "22no");
        writes("c := create \"ab\" ? (move(1) & &pos); \"xyz\" ? { tab(3); writes(@c, &pos, &subject) }", "23xyz");
        writes("every c := create 1 to 3 do { writes(@c, @c); writes(@^c) }", "121");
        GoalHouse x = whole("procedure main();&error := 5;c := create stop(1);@c;end");
        due("stop in a part", x.told(0, 0), 0);
        due("its out", out(x, 0), "1\n");
    }

    // ---- promises 16 to 18 and 24

    private static void goals() {
        GoalHouse x = whole("global g;procedure f(n);suspend 1 to n;end;procedure main();g := 3;end");
        due("told ended", x.told(0, 0), 0);
        feed(x, "f(g) + a + b");
        due("goal with names", x.goal(0), 2);
        due("no result yet", x.show(0, 1, 0, 0), -2);
        due("next broken", x.next(0, 100), 2);
        due("its number", x.told(0, 3), 1);
        due("its place", x.told(0, 4), 5);
        due("goal is no more", x.next(0, 100), -2);
        feed(x, "f(g)");
        due("goal", x.goal(0), 0);
        int steps = x.told(0, 1);
        due("cut", x.next(0, 3), 3);
        due("goal of a cut one", x.goal(0), -2);
        due("depth outside", x.told(0, 10), 1);
        due("first result", x.next(0, 100), 1);
        due("depth outside", x.told(0, 10), 0);
        x.show(0, 1, 0, 0);
        due("first result shown", shown(x), "1");
        due("second", x.next(0, 100), 1);
        due("third", x.next(0, 100), 1);
        due("no more", x.next(0, 100), 0);
        due("latest result", x.show(0, 1, 0, 0), 1);
        due("shown still", shown(x), "3");
        due("steps went on", x.told(0, 1) > steps ? 1 : 0, 1);
        due("no goal", x.next(0, 1), -2);
        feed(x, "1 +");
        due("faulty goal", x.goal(0), -13);
        due("its fault", x.fault(0), 2);
        due("its place", x.fault(1), 3);
        due("no result then", x.show(0, 1, 0, 0), -2);
        feed(x, "g := create 1 to 3");
        x.goal(0);
        x.next(0, 10);
        due("part of a goal before is over", results(x, "@g", 3), ".");
        due("and what ^ makes of it", results(x, "@^g", 3), ".");
        due("goal of none", x.goal(1), -1);
        due("next of none", x.next(1, 1), -1);
        feed(x, "g");
        x.goal(0);
        due("next 0", x.next(0, 0), -1);
        due("next 4001", x.next(0, 4001), -1);
        due("told what", x.told(0, 14), -1);
        due("told below", x.told(0, -1), -1);
        due("stop in a goal", results(x, "stop(1) | 2", 3), "2 .");
        due("subject stays", results(x, "&subject := \"abc\" & &pos := 2", 1), "2 ..");
        due("pos", x.told(0, 8), 2);
        due("size", x.told(0, 9), 3);
        due("a result leaves scannings", results(x, "\"z\" ? tab(0)", 1), "\"z\" ..");
        due("size then", x.told(0, 9), 3);
    }

    private static void counts() {
        GoalHouse x = whole("procedure main();every (1 | 2) + 3;end");
        int[][] want = {{1, 0, 0, 1}, {1, 1, 1, 1}, {1, 2, 2, 1}, {1, 1, 1, 1}, {1, 2, 2, 1}, {2, 2, 2, 2}};
        for (int k = 0; k < want.length; k++) {
            for (int w = 0; w < 4; w++) {
                due("counted " + k + " " + w, x.counted(0, k, w), want[k][w]);
            }
        }
        due("steps", x.told(0, 1), 1 + 2 + 3 + 2 + 3 + 4);
        due("counted none", x.counted(0, 6, 0), -1);
        due("counted what", x.counted(0, 0, 4), -1);
        x = whole("procedure f();suspend 1;end;procedure main();every f();end");
        due("suspend begun", x.counted(0, 0, 0), 1);
        due("suspend resumed", x.counted(0, 0, 1), 0);
        due("suspend gave", x.counted(0, 0, 2), 0);
        due("suspend failed", x.counted(0, 0, 3), 1);
        due("call resumed", x.counted(0, 4, 1), 1);
        due("call gave", x.counted(0, 4, 2), 1);
        due("call failed", x.counted(0, 4, 3), 1);
    }

    // ---- what a run uses up

    private static void uses(String body, int things, int cells, int made) {
        GoalHouse x = body("x := y := [1, 2, 3]; " + body);
        due(body + " ends", x.told(0, 0), 0);
        due(body + " things", x.told(0, 5) - 1, things);
        due(body + " cells", x.told(0, 6) - 5, cells);
        due(body + " made", x.told(0, 7), made);
    }

    private static void used() {
        uses("1", 0, 0, 0);
        uses("x ||| [4]", 2, 5, 0);
        uses("x[2:4]", 1, 2, 0);
        uses("copy(x)", 1, 3, 0);
        uses("copy(1)", 0, 0, 0);
        uses("sort(x)", 1, 3, 0);
        uses("reverse(x)", 1, 3, 0);
        uses("put(x, 1, 2); push(x)", 0, 3, 0);
        uses("get(x)", 0, 0, 0);
        uses("y := table(); y[1] := 2; y[1] := 3; insert(y, 2, 3); insert(y, 2)", 1, 2, 0);
        uses("y := table(); y[1] := y[2] := 0; sort(y)", 4, 8, 0);
        uses("y := table(); y[1] := 0; copy(y)", 2, 2, 0);
        uses("group([1, 1, 2])", 2, 5, 0);
        uses("y := group(x); insert(y, 3); insert(y, 4); y ++ y", 2, 8, 0);
        uses("list(7)", 1, 7, 0);
        uses("y := create 1; ^y", 2, 4, 0);
        uses("y := \"abcd\"; y[2:3] := \"xyz\"; y[1]; y[1:3]", 0, 0, 6);
        uses("12 || 'ab'; \"a\" || \"\"", 0, 0, 5);
        uses("123[2]; 'abc'[1:2]; !123; ?'abc'; *123", 0, 0, 6);
        uses("3 == \"3\"; \"3\" == 3; \"3\" == 4", 0, 0, 1);
        uses("12 ? tab(0); &subject := 'abc'; \"x\" ? tab(0)", 0, 0, 5);
        uses("trim(\"ab \"); trim(12); type(1); proc(\"main\"); text(\"ab\"); text(12)", 0, 0, 4);
        uses("image(&null); left(\"a\", 3); repl(\"ab\", 2); char(65); map(\"AB\"); reverse(\"abc\")", 0, 0, 5 + 3 + 4 + 1 + 2 + 3);
        uses("y := \"ab\"; &error := 1; y[5:6] := \"x\" | 1; y ||:= \"cd\"", 0, 0, 4);
        GoalHouse z = whole("global t\nprocedure f(a, b[]);local c;d := 1;end;procedure main(q[]);t := table(\"ab\");"
                + "&error := 1000;repeat { list(500) | break };repeat { list(20) | break };repeat { list(1) | break };t[1] ||:= \"c\";write(&number);t[2][1] := \"xyz\";f(1, 2, 3);end");
        due("full of cells", z.told(0, 6), 6000);
        due("what op := would assign stays made", z.told(0, 7), 3);
        due("number of the break", out(z, 0), "14\n");
        z = whole("procedure f(a, b[]);local c;d := 1;end;procedure main();f(1, 2, 3);f();end");
        due("cells of calls", z.told(0, 6), 4 + 2 + 4);
        due("things of calls", z.told(0, 5), 2);
    }

    public static void main(String[] args) {
        used();
        tape();
        words();
        places();
        sources();
        programs();
        printed();
        steps();
        limits();
        breaks();
        expressions();
        scanned();
        library();
        calls();
        parts();
        goals();
        counts();
        end();
    }
}
