/** Section 6 of the document: BUILT-IN procedures, their defaults and bounds. */
public final class LibraryTest extends Check {
    private static final String STALE = "((s := \"abcd\") & (s[3:5] :=: s))";
    private static final String NINES = many("9", 60);

    private LibraryTest() {
    }

    /** A call that BREAKS at its (. */
    private static void bad(String call, int number) {
        gives(call, "break " + number + " at " + call.indexOf("("));
    }

    private static void scanned() {
        // s = &subject, i = &pos if s lacks, else 1; j = 0.
        gives("\"banana\" ? (any('b') | many('b') | match(\"ba\") | find(\"na\") | upto('n'))", "2 2 3 3 5 3 5 .");
        gives("\"banana\" ? { tab(3); any('n') | many('na') | match(\"nan\") | find(\"na\") | upto('n') | any('b') }", "4 7 6 3 5 3 5 .");
        gives("\"banana\" ? { tab(3); any('b', \"bx\") | any('b', , 1) | any('n', &null, &null, &null) | any('x', \"bx\", 2) }", "2 2 4 3 .");
        gives("\"banana\" ? { tab(3); find(\"a\", , 1) | upto('b', , 1, 2) }", "2 4 6 1 .");
        gives("any('a') | any('a', \"\") | many('a', \"\") | upto('a', \"\") | match(\"a\", \"\") | find(\"a\", \"\") | bal('a', , , \"\")", ".");
        gives("match(\"\") | match(\"\", \"\") | find(\"\", \"\") | match(\"\", \"ab\", 3)", "1 1 1 3 .");
        // Between i and j, in either order; it fails when one is no place.
        gives("any('b', \"abc\", 2) | any('b', \"abc\", 2, 3) | any('b', \"abc\", 3, 2) | any('b', \"abc\", 2, 2) | any('b', \"abc\", -2, 0) | any('c', \"abc\", 0, -1)", "3 3 3 3 4 .");
        gives("any('a', \"abc\", 5) | any('a', \"abc\", 1, 5) | any('a', \"abc\", -4) | any('a', \"abc\", 1, -4)", ".");
        gives("any('a', \"abc\", 1000000000000000000000) | any('a', \"abc\", 1, -1000000000000000000000) | any('a', \"abc\", 4294967297)", ".");
        gives("many('ab', \"abcab\") | many('ab', \"abcab\", 4) | many('ab', \"abcab\", 1, 2) | many('c', \"abcab\") | many('c', \"abcab\", 3, 3)", "3 6 2 .");
        gives("upto('ab', \"abcab\")", "1 2 4 5 .");
        gives("upto('ab', \"abcab\", 2, 5) | upto('ab', \"abcab\", 5, 2) | upto('', \"ab\") | upto('a', \"aaa\", 3, 3)", "2 4 2 4 .");
        gives("match(\"ab\", \"abcab\") | match(\"ab\", \"abcab\", 4) | match(\"ab\", \"abcab\", 4, 5) | match(\"abc\", \"ab\") | match(\"ab\", \"abcab\", 0, 4) | match(\"ab\", \"abcab\", 2)", "3 6 6 .");
        gives("find(\"ab\", \"ababa\") | find(\"aba\", \"ababa\") | find(\"ab\", \"ababa\", 2) | find(\"ab\", \"ababa\", 1, 3) | find(\"ab\", \"ababa\", 1, 2)", "1 3 1 3 3 1 .");
        gives("find(\"\", \"abc\") | find(\"\", \"abc\", 2, 3) | find(\"\", \"abc\", 4)", "1 2 3 4 2 3 4 .");
        gives("find(1, 2121) | find('ab', \"xab\") | any(12, 21) | upto(1, '12') | match('ba', 'cab')", "2 4 2 2 1 3 .");
        gives("bal('+', , , \"a+b\") | bal('+', , , \"(a+b)+c\") | bal(, , , \"ab\")", "2 6 1 2 .");
        gives("bal('+', '[', ']', \"[a+b]+(c+d)\")", "6 9 .");
        gives("bal('b', , , \"a)b\") | bal(')', , , \"a)b\") | bal(, , , \"a)b\") | bal('(', , , \"(a)\") | bal(')', , , \"(a)\")", "2 1 2 1 .");
        gives("bal('b', , , \"a)b\", 3) | bal('+', , , \"(+)+\", 2) | bal('+', , , \"+(+)+\", 5, 1) | bal('+', , , \"+\", 2)", "3 2 1 .");
        gives("\"(+)+\" ? { tab(2); bal('+') | \"-\" | bal('+', , , , 1) }", "2 \"-\" 4 .");
        gives("bal('+', , , \"a)+\" | \"b+\" | \"(+\" | \"+\")", "2 1 .");
        gives("upto('+', \"a+\" | \"+\" | \"\" | \"++\") | find(\"+\", \"a+\" | \"+\" | \"\" | \"++\")", "2 1 1 2 2 1 1 2 .");
        gives("bal('a', 'a', 'b', \"aab\") | bal('x', 'x', 'x', \"xx\")", "1 1 2 .");
        // In order: c or t (o, q), s, i, j.
        bad("any([], 1, 2)", 3);
        bad("any()", 3);
        bad("any(&null, [])", 3);
        bad("any('a', [], \"x\")", 2);
        bad("any('a', \"a\", \"x\", [])", 1);
        bad("any('a', \"a\", 9, [])", 1);
        bad("any('a', \"a\", 9, \"x\")", 1);
        bad("many()", 3);
        bad("upto(main)", 3);
        bad("match([])", 2);
        bad("match()", 2);
        bad("find()", 2);
        bad("find(\"a\", main)", 2);
        bad("find(\"a\", \"a\", main)", 1);
        bad("bal([])", 3);
        bad("bal('a', [])", 3);
        bad("bal('a', 'b', main)", 3);
        bad("bal('a', 'b', 'c', main)", 2);
        bad("bal('a', 'b', 'c', \"d\", main)", 1);
        bad("bal('a', 'b', 'c', \"d\", 9, main)", 1);
        bad("bal(" + STALE + ", [])", 19);
        bad("bal('a', [], " + STALE + ")", 3);
        bad("any('a', " + STALE + ", [])", 19);
        gives("any('a', \"a\", 1, 0, []) | find(\"a\", \"a\", 1, 0, " + STALE + ")", "2 1 .");
    }

    private static void tabs() {
        gives("\"abc\" ? (tab(2) | tab(0) | tab(-1) | tab(1) | tab(4) | tab(5) | tab(-4) | &pos)", "\"a\" \"abc\" \"ab\" \"\" \"abc\" 1 .");
        gives("\"abc\" ? { tab(3); tab(1) | tab(2) | tab(0) | &pos }", "\"ab\" \"b\" \"c\" 3 .");
        gives("\"abc\" ? { tab(3); tab(1) & &pos }", "1 .");
        gives("\"abc\" ? (move(1) | move(3) | move(0) | move(4) | move(-1) | &pos)", "\"a\" \"abc\" \"\" 1 .");
        gives("\"abc\" ? { tab(3); move(-2) | move(-3) | move(1) | move(2) | &pos }", "\"ab\" \"c\" 3 .");
        gives("\"abc\" ? (((tab(2) & tab(3)) & &fail) | &pos)", "1 .");
        gives("\"abc\" ? (tab(2) & (move(1) | &pos))", "\"b\" 2 .");
        gives("\"abc\" ? (move(1000000000000000000000) | move(-1000000000000000000000) | tab(1000000000000000000000) | tab(4294967297) | move(4294967296) | &pos)", "1 .");
        gives("\"abc\" ? (tab(\"2\") | move('1'))", "\"a\" \"a\" .");
        gives("\"abc\" ? (pos(1) | pos(2) | pos(0) | pos(-3) | pos(5))", "1 1 .");
        gives("\"abc\" ? { tab(0); pos(0) | pos(4) | pos(1) | pos(-1) }", "4 4 .");
        gives("tab(1) | move(0) | pos(0) | pos(1) | tab(2) | move(1)", "\"\" \"\" 1 1 .");
        bad("tab()", 1);
        bad("move(&null)", 1);
        bad("pos(\"x\")", 1);
        bad("tab(" + STALE + ")", 19);
        gives("\"abcd\" ? { &pos := 4; (tab(2) & (&subject := \"x\") & &fail) | &pos }", "1 .");
        gives("\"abcd\" ? { &pos := 2; (tab(4) & (&subject := \"x\") & &fail) | &pos }", "2 .");
        gives("\"abcd\" ? { &pos := 3; (tab(4) & (&subject := \"x\") & (&pos := 2) & &fail) | &pos }", "2 .");
    }

    private static void outAndIn() {
        writes("write(); write(&null); write(1, \"a\", 'cb', &null, -2); writes(); writes(3); writes(\"\", 4)", "\n\n1abc-2\n34");
        gives("write() | write(5) | write(1, \"a\") | write(1, &null) | writes(1, 'ab') | writes()", "&null 5 \"a\" &null 'ab' &null .");
        bad("write([])", 2);
        bad("write(1, main)", 2);
        bad("write(" + STALE + ", [])", 19);
        bad("write([], " + STALE + ")", 2);
        GoalHouse x = whole("procedure main();write(1);stop(2, 3);write(4);end");
        due("stop writes and ends", out(x, 0), "1\n23\n");
        due("ended", x.told(0, 0), 0);
        due("stop in a goal", results(x, "stop(4) | 5", 3), "5 .");
        due("it wrote", out(x, 0), "1\n23\n4\n");
        due("the run is as it was", x.told(0, 0), 0);
        x = whole("global a, b, c;procedure main();a := read();b := read();c := read();read() | write(\"none\");end", "ab\n\nc");
        due("a line", show(x, 0, 0, 0), "\"ab\"");
        due("an empty line", show(x, 0, 1, 0), "\"\"");
        due("the last line", show(x, 0, 2, 0), "\"c\"");
        due("no more", out(x, 0), "none\n");
        x = whole("procedure main();while write(image(read()));end", "a\n");
        due("no line behind the last 10", out(x, 0), "\"a\"\n");
        x = whole("procedure main();while write(image(read()));end", "\n\n");
        due("two empty lines", out(x, 0), "\"\"\n\"\"\n");
        x = whole("procedure main();while write(image(read()));end", "");
        due("no lines", out(x, 0), "");
        x = whole("procedure main();while write(image(read()));end", "\r\u00ff\u0000");
        due("any bytes", out(x, 0), "\"\\x0d\\xff\\x00\"\n");
    }

    private static void kinds() {
        gives("type(&null) | type(1) | type(\"\") | type('') | type(main) | type(write) | type([]) | type(group()) | type(table()) | type(create 1)",
            "\"null\" \"whole\" \"text\" \"set\" \"procedure\" \"procedure\" \"list\" \"group\" \"table\" \"part\" .");
        gives("type() | image()", "\"null\" \"&null\" .");
        says("record rec(a);procedure main();writes(type(rec), type(rec()), image(rec()));end", "procedurerecrec_2(1)");
        says("record write(a);procedure abs();end;procedure main();writes(image(proc(\"write\")), image(proc(\"abs\")), image(proc(\"max\")), image(proc(\"rec\")) | \"-\", image(proc(12)) | \"-\");end", "record writeprocedure absbuilt-in max--");
        gives("proc(\"\") | proc(\"Main\") | proc(\"main \")", ".");
        bad("proc()", 2);
        bad("proc(main)", 2);
        for (String v : new String[] {"copy", "image", "type", "whole", "text", "set", "number"}) {
            bad(v + "(" + STALE + ")", 19);
        }
        gives("copy(1) | copy(\"a\") | copy('a') | copy() | copy(main) | (x := create 1) === copy(x)", "1 \"a\" 'a' &null procedure main part_1(0) .");
        gives("(x := [1, [2]]) & (y := copy(x)) & ((y === x) | *y | (y[2] === x[2]) | (y[1] := 5) | x[1])", "2 list_1(1) 5 1 .");
        gives("(t := table(7)) & (t[2] := 1) & (t[1] := 2) & (u := copy(t)) & (u[9] | key(u) | !u | (u[2] := 5) | t[2])", "7 2 1 1 2 5 1 .");
        gives("(g := group([3, 1])) & (h := copy(g)) & insert(h, 2) & (!g | !h)", "3 1 3 1 2 .");
        says("record r(a, b);procedure main();p := r(1, 2);q := copy(p);q.a := 5;writes(p.a, q.a, q.b, image(q), type(q));end", "152r_2(2)r");
        gives("whole(5) | whole(\" 5 \") | whole('5') | whole(\"x\") | whole([]) | whole()", "5 5 5 .");
        gives("text(5) | text(\"x\") | text('ba') | text([]) | text()", "\"5\" \"x\" \"ab\" .");
        gives("set(5) | set(\"xyx\") | set('ba') | set([]) | set()", "'5' 'xy' 'ab' .");
        gives("number([]) | number(table()) | number(create 1) | number(5) | number() | number(main)", "1 2 3 .");
    }

    private static void lists() {
        gives("*list() | *list(3) | list(2)[1] | list(2, 5)[2] | *list(500) | *list(\"2\") | *list(&null, 1)", "0 3 &null 5 500 2 0 .");
        bad("list(501)", 20);
        bad("list(-1)", 20);
        bad("list(1000000000000000000000)", 20);
        bad("list(\"x\")", 1);
        bad("list(501, " + STALE + ")", 19);
        bad("list([], " + STALE + ")", 1);
        gives("(l := list(2, [])) & (l[1] === l[2]) & *l", "2 .");
        gives("*group() | *group([1, \"1\", 1, '1']) | !group([2, 1, 2])", "0 3 2 1 .");
        bad("group(1)", 5);
        bad("group(group())", 5);
        gives("table()[1] | table(5)[1] | *table(5)", "&null 5 0 .");
        bad("table(" + STALE + ")", 19);
        gives("(l := [1]) & (put(l, 2, 3) === l) & !l", "1 2 3 .");
        gives("(l := [1]) & push(l, 2, 3) & !l", "3 2 1 .");
        gives("(l := []) & put(l) & push(l, ) & !l", "&null &null .");
        gives("(l := []) & put(l, &null, 1, ) & !l", "&null 1 &null .");
        gives("(l := [1, 2, 3]) & (get(l) | pull(l) | get(l) | get(l) | pull(l) | *l)", "1 3 2 0 .");
        for (String f : new String[] {"put", "push", "get", "pull"}) {
            bad(f + "()", 5);
            bad(f + "(1)", 5);
            bad(f + "(table())", 5);
            bad(f + "(" + STALE + ")", 19);
        }
        bad("put([], 1, " + STALE + ")", 19);
        bad("put([], " + STALE + ")", 19);
        bad("push([], " + STALE + ")", 19);
        bad("put(1, " + STALE + ")", 5);
        gives("(l := [1]) & ((&error := 1) & put(l, 2, " + STALE + ") | *l)", "1 .");
        writes("l := []; every put(l, 1 to 40); every 1 to 30 do get(l); every push(l, 1 to 30); writes(*l, \" \", l[1], \" \", l[30], \" \", l[31], \" \", l[40])", "40 30 1 31 40");
    }

    private static void tables() {
        gives("(t := table()) & (insert(t, 1, 5) === t) & (insert(t, 1, 6) & insert(t, 2)) & (*t | t[1] | t[2])", "2 6 &null .");
        gives("(t := table(7)) & insert(t) & (*t | t[&null] | key(t))", "1 &null &null .");
        gives("(g := group()) & (insert(g, 1) === g) & insert(g, 1) & insert(g, 1, 2) & insert(g) & !g", "1 &null .");
        gives("(t := table()) & insert(t, 1, 5) & ((delete(t, 1) === t) & delete(t, 1) & delete(t, 9)) & (*t | \"-\")", "0 \"-\" .");
        gives("(g := group([1, 2])) & (delete(g, 1) === g) & delete(g, 3) & !g", "2 .");
        gives("member(group([1]), 1) | member(group([1]), \"1\") | member(group([1]), 2) | member(group([&null]))", "1 &null .");
        gives("(t := table(5)) & (t[\"k\"] := 1) & (member(t, \"k\") | member(t, 1) | member(t))", "\"k\" .");
        for (String f : new String[] {"insert", "delete", "member"}) {
            bad(f + "()", 9);
            bad(f + "([], 1)", 9);
            bad(f + "(\"x\", " + STALE + ")", 9);
            bad(f + "(" + STALE + ", 1)", 19);
            bad(f + "(table(), " + STALE + ")", 19);
            bad(f + "(group(), " + STALE + ")", 19);
        }
        bad("insert(table(), 1, " + STALE + ")", 19);
        gives("delete(table(), 1, " + STALE + ") | 1", "table_1(0) 1 .");
        bad("key()", 9);
        bad("key([])", 9);
        bad("key(" + STALE + ")", 19);
        gives("(t := table()) & (t[3] := 0) & (t[1] := 0) & (t[\"3\"] := 0) & (t['3'] := 0) & (t[&null] := 0) & (key(t) | *t)", "3 1 \"3\" '3' &null 5 .");
        gives("key(table()) | !table() | !group()", ".");
        gives("(t := table()) & (t[1] := 5) & (u := table()) & (u[2] := 6) & (u[3] := 7) & (key(t | u | t) | !(u | t))", "1 2 3 1 6 7 5 .");
        gives("!(\"ab\" | [3, 4] | group([5, 6]) | \"c\") | seq(1 | 5, 10 | 20) \\ 2 | ((1 | 4) to (2 | 5))", "\"a\" \"b\" 3 4 5 6 \"c\" 1 11 1 2 1 ..");
        gives("(t := table()) & (t[3] := 0) & (t[1] := 0) & (t[3] := 5) & delete(t, 1) & (t[1] := 6) & (key(t) | !t)", "3 1 5 6 .");
    }

    private static void sorts() {
        gives("!sort([3, 1, 2]) | *sort([]) | !sort(group([2, 1]))", "1 2 3 0 1 2 .");
        gives("(t := table()) & (t[\"b\"] := 1) & (t[\"a\"] := 2) & (t[5] := 3) & (l := sort(t)) & (*l | !!l)", "3 5 3 \"a\" 2 \"b\" 1 .");
        gives("(t := table()) & (t[\"b\"] := 1) & (t[\"a\"] := 2) & (l := sort(t)) & (image(t | l | !l))", "\"table_1(2)\" \"list_2(2)\" \"list_3(2)\" \"list_4(2)\" .");
        gives("(t := table()) & (t[2] := 1) & (t[1] := 2) & (l := sort(t)) & (image(!l) | number(!l) | l[1][1] | l[2][1])", "\"list_3(2)\" \"list_4(2)\" 3 4 1 2 .");
        gives("!sort([2, \"1\", 1, 2, \"\", &null, 1])", "&null 1 1 2 2 \"\" \"1\" .");
        // Those that are the same in THE ORDER as they stood.
        gives("!sort([\"a\", 'ab', 'ba', \"a\"])", "\"a\" \"a\" 'ab' 'ab' .");
        gives("(l := [3, 1]) & (sort(l) ~=== l) & !l", "3 1 .");
        bad("sort()", 10);
        bad("sort(" + STALE + ")", 19);
        bad("sort(\"abc\")", 10);
        bad("sort(1)", 10);
        bad("sort(create 1)", 10);
        says("record r(a);procedure main();&error := 1;sort(r(1)) | writes(&number, image(&value));end", "10r_1(1)");
    }

    private static void texts() {
        gives("left(\"abc\", 5) | right(\"abc\", 5) | center(\"abc\", 6) | center(\"abc\", 7) | center(\"abc\", 4)", "\"abc  \" \"  abc\" \" abc  \" \"  abc  \" \"abc \" .");
        gives("left(\"abc\", 2) | right(\"abc\", 2) | center(\"abcd\", 2) | center(\"abcde\", 2) | center(\"abc\", 2) | center(\"abcd\", 1)", "\"ab\" \"bc\" \"bc\" \"bc\" \"ab\" \"b\" .");
        gives("left(\"abc\", 0) | right(\"abc\", 0) | center(\"abc\", 0) | left(\"abc\", 3) | right(\"abc\", 3) | center(\"abc\", 3)", "\"\" \"\" \"\" \"abc\" \"abc\" \"abc\" .");
        gives("left(\"abc\") | right(\"abc\") | center(\"abc\") | left(\"\") | right(\"\") | center(\"\")", "\"a\" \"c\" \"b\" \" \" \" \" \" \" .");
        // In front with p again and again from its left end, behind so that the last byte of p is the last one.
        gives("left(\"ab\", 7, \"123\") | right(\"ab\", 7, \"123\") | center(\"ab\", 9, \"123\") | center(\"ab\", 8, \"12\")", "\"ab23123\" \"12312ab\" \"123ab3123\" \"121ab212\" .");
        gives("left(\"ab\", 4, \"\") | right(\"ab\", 4, '') | left(\"ab\", 4, 12) | right(5, 3, '21')", "\"ab  \" \"  ab\" \"ab12\" \"125\" .");
        gives("*left(\"ab\", 500) | *right(\"\", 500, \"xy\") | *center(\"ab\", 500)", "500 500 500 .");
        for (String f : new String[] {"left", "right", "center"}) {
            bad(f + "(\"a\", 501)", 20);
            bad(f + "(\"a\", -1)", 20);
            bad(f + "(\"a\", 1000000000000000000000)", 20);
            bad(f + "(\"a\", -1, [])", 2);
            bad(f + "(\"a\", \"x\", [])", 1);
            bad(f + "([], \"x\")", 2);
            bad(f + "()", 2);
            bad(f + "(\"a\", 501, " + STALE + ")", 19);
        }
        gives("trim(\"a b  \") | trim(\"  \") | trim(\"\") | trim(\"abba\", 'a') | trim(\"abba\", \"ab\") | trim(120, 0) | trim('c b') | trim(\"a \", '')", "\"a b\" \"\" \"\" \"abb\" \"\" \"12\" \" bc\" \"a \" .");
        bad("trim()", 2);
        bad("trim([], main)", 2);
        bad("trim(\"a\", [])", 3);
        gives("repl(\"ab\", 0) | repl(\"ab\", 2) | repl(\"\", 1000000000000000000000) | repl(1, 3) | repl('ba', '2') | *repl(\"ab\", 250)", "\"\" \"abab\" \"\" \"111\" \"abab\" 500 .");
        bad("repl(\"ab\", 251)", 13);
        bad("repl(\"a\", 1000000000000000000000)", 13);
        bad("repl(\"a\", -1)", 20);
        bad("repl(\"\", -1000000000000000000000)", 20);
        bad("repl(\"a\")", 1);
        bad("repl()", 2);
        bad("repl([], \"x\")", 2);
        bad("repl(\"a\", " + STALE + ")", 19);
        gives("reverse(\"abc\") | reverse(\"\") | reverse(123) | reverse(-1) | reverse('cab') | !reverse([1, 2, 3]) | *reverse([])", "\"cba\" \"\" \"321\" \"1-\" \"cba\" 3 2 1 0 .");
        gives("(l := [1, 2]) & (reverse(l) ~=== l) & !l", "1 2 .");
        bad("reverse()", 2);
        bad("reverse(" + STALE + ")", 19);
        gives("map(\"aBcZ\") | map(\"abc\", \"ab\", \"xy\") | map(\"abc\", \"aba\", \"xyz\") | map(\"abc\", \"\", \"\") | map(121, 12, 34) | map(\"B\", , &upper) | map(\"b\", &lower, &upper)",
            "\"abcz\" \"xyc\" \"zyc\" \"abc\" \"343\" \"B\" \"B\" .");
        gives("map(\"abc\", 'cba', \"123\") | map(\"cab\", \"abc\", 'cba')", "\"123\" \"cab\" .");
        bad("map(\"a\", \"ab\", \"x\")", 20);
        bad("map(\"a\", \"ab\")", 20);
        bad("map(\"a\", , \"x\")", 20);
        bad("map()", 2);
        bad("map([], [], [])", 2);
        bad("map(\"a\", [], " + STALE + ")", 2);
        bad("map(\"a\", \"b\", [])", 2);
        gives("char(0) | char(255) | char(\"65\") | char(10)", "\"\\x00\" \"\\xff\" \"A\" \"\\n\" .");
        bad("char(256)", 20);
        bad("char(-1)", 20);
        bad("char(1000000000000000000000)", 20);
        bad("char()", 1);
        bad("char(\"a\")", 1);
        gives("ord(\"a\") | ord(\"\\x00\") | ord(\"\\xff\") | ord(5) | ord('a')", "97 0 255 53 97 .");
        bad("ord(\"\")", 20);
        bad("ord(\"ab\")", 20);
        bad("ord(12)", 20);
        bad("ord()", 2);
        bad("ord([])", 2);
    }

    private static void wholes() {
        gives("(seq() \\ 3) | (seq(5) \\ 2) | (seq(5, -2) \\ 3) | (seq(, 2) \\ 2) | (seq(1, 0) \\ 2)", "1 2 3 5 6 5 3 1 1 3 1 1 ..");
        gives("seq(" + NINES + ")", NINES + " break 12 at 3");
        gives("seq(-" + NINES + ", -1)", "-" + NINES + " break 12 at 3");
        bad("seq([])", 1);
        bad("seq(1, [])", 1);
        bad("seq(\"x\", " + STALE + ")", 1);
        gives("abs(5) | abs(-5) | abs(0) | abs(\"-7\") | abs(-" + NINES + ")", "5 5 0 7 " + NINES + " .");
        bad("abs()", 1);
        bad("abs(\"x\")", 1);
        gives("min(3) | max(3) | min(3, 1, 2) | max(3, 1, 5, 2) | min(\"3\", '2') | max(-1, -2) | min(1000000000000000000000, -1000000000000000000000)", "3 3 1 5 2 -1 -1000000000000000000000 .");
        gives("max(\"3\") | min(' 3') | max(1, \"1\") | max(0, \"-0\")", "3 3 1 0 .");
        gives("max(\"1\", \"2\", \"3\", \"4\", \"5\", \"6\", \"7\") | min('7', '6', '5', '4', '3', '2', '1') | max(\"3\", \"9\", \"2\", 4, \"8\") | min(\"1000000000000000000000\", \"1000000000000000000001\", \"999999999999999999999\", 5)", "7 1 9 5 .");
        bad("min()", 1);
        bad("max()", 1);
        bad("min(1, [])", 1);
        bad("min([], " + STALE + ")", 1);
        bad("max(1, &null)", 1);
        bad("max(1, " + STALE + ", [])", 19);
        gives("gcd(12, 18) | gcd(-12, 18) | gcd(12, -18) | gcd(0, 5) | gcd(-5, 0) | gcd(0, 0) | gcd(7, 13) | gcd(\"6\", '4')", "6 6 6 5 5 0 1 2 .");
        gives("gcd(" + NINES + ", 99) | gcd(1000000000000000000000000, 1500000000000000000000000) | gcd(-" + NINES + ", -" + NINES + ")", "99 500000000000000000000000 " + NINES + " .");
        bad("gcd(1)", 1);
        bad("gcd([], " + STALE + ")", 1);
        gives("digits(0) | digits(123) | digits(-99) | digits(" + NINES + ") | digits(\"45\")", "0 6 18 540 9 .");
        bad("digits()", 1);
        bad("digits('x')", 1);
        // Arguments behind are not looked at.
        gives("abs(-1, " + STALE + ") | digits(1, []) | char(65, []) | type(1, " + STALE + ") | *list(1, 2, " + STALE + ")", "1 1 \"A\" \"whole\" 1 .");
    }

    /** By which number each argument BREAKS if it is a procedure; 0: any value is right. */
    private static final String[] ARGUMENTS = {"any 3 2 1 1", "many 3 2 1 1", "upto 3 2 1 1", "match 2 2 1 1", "find 2 2 1 1", "bal 3 3 3 2 1 1", "tab 1", "move 1", "pos 1",
        "write 2 2 2", "writes 2 2 2", "stop 2 2 2", "image 0", "type 0", "proc 2", "copy 0", "whole 0", "text 0", "set 0", "number 0", "list 1 0", "group 5", "table 0", "put 5 0 0", "push 5 0 0",
        "get 5", "pull 5", "insert 9 0 0", "delete 9 0", "member 9 0", "key 9", "sort 10", "left 2 1 2", "right 2 1 2", "center 2 1 2", "trim 2 3", "repl 2 1", "reverse 2", "map 2 2 2", "char 1",
        "ord 2", "seq 1 1", "abs 1", "min 1 1 1", "max 1 1 1", "gcd 1 1", "digits 1"};

    private static String right(int kind) {
        return kind == 1 ? "1" : kind == 2 ? "\"a\"" : kind == 3 ? "'a'" : kind == 9 ? "table()" : kind == 0 ? "7" : "[]";
    }

    /** Each argument wrong or stale, behind right ones and in front of wrong and stale ones. */
    private static void inOrder() {
        for (String row : ARGUMENTS) {
            String[] words = row.split(" ");
            GoalHouse x = body("");
            StringBuilder ahead = new StringBuilder();
            for (int i = 1; i < words.length; i++) {
                int kind = Integer.parseInt(words[i]);
                for (String behind : new String[] {"", ", main", ", " + STALE}) {
                    String call = words[0] + "(" + ahead + STALE + behind + ")";
                    due(call, results(x, call, 2), "break 19 at " + words[0].length());
                    call = words[0] + "(" + ahead + "main" + behind + ")";
                    if (kind > 0) {
                        due(call, results(x, call, 2), "break " + kind + " at " + words[0].length());
                        call = words[0] + " ! ([" + ahead + "main])";
                        due(call, results(x, call, 2), "break " + kind + " at " + (words[0].length() + 1));
                    }
                }
                ahead.append(right(kind)).append(", ");
            }
            for (String behind : new String[] {"main", STALE}) {
                String call = words[0] + "(" + ahead + behind + ")";
                boolean all = words[0].startsWith("writ") || words[0].startsWith("stop") || words[0].startsWith("pu") && !words[0].equals("pull") || words[0].equals("min") || words[0].equals("max");
                String got = results(x, call, 2);
                due(call + " looks at what is behind", got.startsWith("break") ? 1 : 0, all && !(words[0].startsWith("pu") && behind.equals("main")) ? 1 : 0);
            }
        }
    }

    public static void main(String[] args) {
        inOrder();
        scanned();
        tabs();
        outAndIn();
        kinds();
        lists();
        tables();
        sorts();
        texts();
        wholes();
        end();
    }
}
