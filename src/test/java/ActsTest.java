/** Section 4 of the document: how expressions are begun and resumed, and what acts give. */
public final class ActsTest extends Check {
    /** Gives a section of s that its cell has no bytes for any more. */
    private static final String STALE = "((s := \"abcd\") & (s[3:5] :=: s))";

    private ActsTest() {
    }

    private static void alternatives() {
        gives("(1 | 2) + (10 | 20 | 30)", "11 21 31 12 22 32 .");
        gives("&fail + 1 | 1 + &fail | &fail(1) | [&fail] | (&fail to 3) | (1 to &fail) | (1 to 2 by &fail)", ".");
        gives("[1 | 2, 3 | 4] & &fail", ".");
        gives("*([] | [,] | [1, 2] | [, , ])", "0 2 2 3 .");
        gives("[1, , 3][2] | [,][1] | (2)(1, , 3)", "&null &null &null .");
        gives("1 | 2 | &fail | (3 | 4)", "1 2 3 4 .");
        gives("|&fail", ".");
        gives("(|(1 to 2)) \\ 5", "1 2 1 2 1 .");
        gives("(x := 0) & |((x +:= 1) & (x < 4))", "4 4 4 .");
        gives("(x := 0) & |(4 > (x +:= 1))", "1 2 3 .");
        gives("&fail | ()", "&null .");
        gives("&null | &fail | &null", "&null &null .");
        // Cells are looked at when the act is done.
        gives("(x := 1) & (x + (x := 5))", "10 .");
        gives("(x := 1) & [x, x := 5, x][1 to 3]", "5 5 5 .");
        gives("(x := 1) & [.x, x := 5, x][1 to 3]", "1 5 5 .");
        gives("(x := 1) & ((x | 7) === (x := 2))", "2 .");
        gives("(x := \"ab\") & (x || (x := \"cd\") || x)", "\"cdcdcd\" .");
        gives("&pos + (\"abc\" ? tab(3) & 5)", "6 .");
        gives("(1 to 3) & (7 | 8)", "7 8 7 8 7 8 .");
        gives("((x := 1) & x) := 3 & x", "3 .");
    }

    private static void limits() {
        gives("(1 to 5) \\ 0 | (1 to 5) \\ 1 | (1 to 5) \\ 2 | (1 to 2) \\ 5", "1 1 2 1 2 .");
        gives("(1 to 5) \\ (2 | 0 | 1 | 3)", "1 2 1 1 2 3 .");
        gives("(1 to 2) \\ 1000000000000000000000 | (1 to 5) \\ \" 2\" | (1 to 5) \\ '1'", "1 2 1 2 1 .");
        gives("1 \\ -1", "break 20 at 2");
        gives("1 \\ -1000000000000000000000", "break 20 at 2");
        gives("1 \\ \"x\"", "break 1 at 2");
        gives("1 \\ &null", "break 1 at 2");
        gives("1 \\ " + STALE, "break 19 at 2");
        writes("every (|writes(1)) \\ 3; every (writes(2) & &fail) \\ 3; (writes(3) | writes(4)) \\ 0", "1112");
        writes("&error := 1; every writes((1 to 3) \\ (-1 | 2)); writes(&error, &number, image(&value))", "12020&null");
        gives("(x := 5) & ((x \\ 1) := 6) & x", "6 .");
        gives("not 1 | not &fail | not (1 | 2) | not (&fail | 1) | not not 1", "&null &null .");
        writes("not (writes(1) | writes(2)); not (writes(3) & &fail)", "13");
    }

    private static void conditions() {
        gives("if 1 | 2 then 3 | 4", "3 4 .");
        gives("if 1 then &fail else 2", ".");
        gives("(if &fail then 1) | (if &fail then 1 else 2 | 3)", "2 3 .");
        gives("(if 1 then x) := 3 & x", "3 .");
        writes("if writes(1) | writes(2) then writes(3); if writes(4) & &fail then writes(5) else writes(6)", "1346");
        writes("x := 0; while (x +:= 1) < 4 do writes(x); writes(x)", "1234");
        writes("x := 0; until (x +:= 1) > 3 do writes(x); writes(x)", "1234");
        writes("x := 0; while (x +:= 1) < 4; writes(x); until (x +:= 1) > 6; writes(x)", "47");
        writes("x := 0; while writes(1) & (x +:= 1) < 3 do (writes(2) | writes(3)) & &fail", "123123" + "1");
        gives("(while &fail) | (until 1) | (every 1 to 3) | (every 1 to 3 do 5) | (while &fail do 1) | 7", "7 .");
        writes("every (1 | 2 | &fail | 3) do writes(4) | writes(5)", "444");
        writes("every writes(1 to 3)", "123");
        writes("every x := 1 to 5 do { if x = 2 then next; if x = 4 then break; writes(x) }", "13");
        writes("x := 0; while (x +:= 1) <= 5 do { if x = 2 then next; if x = 4 then break; writes(x) }", "13");
        writes("x := 0; until (x +:= 1) > 5 do { if x = 2 then next; if x = 4 then break; writes(x) }", "13");
        writes("x := 0; repeat { if (x +:= 1) = 2 then next; if x = 4 then break; writes(x) }", "13");
        writes("x := 0; repeat (x +:= 1) > 3 & break; writes(x)", "4");
        gives("repeat break 1 | 2", "1 2 .");
        gives("(repeat break) | (every 1 to 3 do break) | (every 1 to 3 do break &fail) | (while 1 do break 4 to 5) | 9", "&null &null 4 5 9 .");
        gives("every x := 1 to 9 do if x = 3 then break x | 7", "3 7 .");
        gives("repeat { repeat break break 1 | 2 }", "1 2 .");
        writes("every x := 1 to 3 do every y := 1 to 3 do { if y = 2 then break next; writes(x, y, \" \") }", "11 21 31 ");
        writes("every x := 1 to 2 do { repeat break next; writes(7) }; writes(x)", "2");
        gives("(x := 1) & ((repeat break x) := 5) & x", "5 .");
    }

    private static void cases() {
        gives("case 2 of { 1 : 5; 2 : 6 | 7; 2 : 8 }", "6 7 .");
        gives("case 2 of { 1 | 2 | 3 : 6 }", "6 .");
        gives("case 2 | 1 of { 1 : 5; default : 9 }", "9 .");
        gives("case &fail of { default : 1 }", ".");
        gives("case 1 of { \"1\" : 2 } | case 1 of { } | case 1 of { 2 : 3 }", ".");
        gives("case 1 of { default : 8 | 9; 1 : &fail }", ".");
        gives("case 1 of { default : 8 | 9; 2 : 3 }", "8 9 .");
        gives("case 'ab' of { \"ab\" : 1; 'ba' : 2 }", "2 .");
        gives("case &null of { 0 : 1; () : 2 }", "2 .");
        writes("case writes(1) & 5 of { writes(2) & 4 : 0; (writes(3) & 5) | writes(4) : writes(6); writes(7) : 0; default : writes(8) }", "1236");
        writes("x := 1; case x of { (x := 2) & 1 : writes(x); default : writes(9) }", "2");
        gives("(x := 1) & ((case 1 of { 1 : x }) := 4) & x", "4 .");
        gives("{ 1 | 2; 3 | 4 } | { &fail; 5 } | { } | { 6; &fail }", "3 4 5 &null .");
        writes("{ writes(1) | writes(2); writes(3) & &fail; writes(4) }", "134");
        gives("(x := 1) & ({ 2; x } := 4) & x", "4 .");
    }

    private static void scannings() {
        gives("\"abc\" ? (1 | &pos | &subject)", "1 1 \"abc\" .");
        gives("(12 ? &subject) | ('ba' ? &subject) | (-1 ? &subject)", "\"12\" \"ab\" \"-1\" .");
        gives("&null ? 1", "break 2 at 6");
        gives("[] ? 1", "break 2 at 3");
        gives(STALE + " ? 1", "break 19 at " + (STALE.length() + 1));
        gives("(\"ab\" | \"cd\") ? (tab(2) | tab(3))", "\"a\" \"ab\" \"c\" \"cd\" .");
        gives("\"abc\" ? &fail", ".");
        gives("\"abc\" ? (&subject := \"xy\")", "\"xy\" .");
        gives("(\"abc\" ? &pos) := 1", "break 4 at 15");
        // Those from outside are as they were whenever it is left; its own as it left them when it is resumed.
        writes("every writes(\"abc\" ? { tab(2); 1 | &pos | { &pos := 4; &subject } | &pos }, &pos, \" \")", "11 21 abc1 41 ");
        writes("\"xy\" ? { tab(2); every writes(\"abc\" ? (1 | &pos), &pos, &subject, \" \"); writes(&pos, &subject) }", "12xy 12xy 2xy");
        writes("\"xy\" ? { tab(2); \"abc\" ? (tab(0) & &fail); writes(&pos, &subject) }", "2xy");
        writes("\"xy\" ? { tab(2); repeat \"abc\" ? { tab(0); break writes(&pos, &subject) } }", "2xy");
        writes("\"xy\" ? { tab(2); every x := 1 to 2 do \"abc\" ? { tab(0); next }; writes(&pos, &subject) }", "2xy");
        says("procedure f();\"abc\" ? { tab(3); return &pos };end;procedure main();\"xy\" ? { tab(2); writes(f(), &pos, &subject) };end", "32xy");
        says("procedure f();\"abc\" ? { tab(3); fail };end;procedure main();\"xy\" ? { tab(2); writes(f() | \"-\", &pos, &subject) };end", "-2xy");
        says("procedure f();\"abc\" ? { tab(3); suspend &pos; writes(&pos, &subject, \" \"); suspend &pos };end;procedure main();\"xy\" ? { tab(2); every writes(f(), &pos, &subject, \" \"); writes(&pos) };end",
            "32xy 3abc 32xy 2");
        says("procedure f();tab(3);suspend 1;writes(&pos);end;procedure main();\"xy\" ? { every f() do { writes(&pos); &pos := 1 } };end", "31");
        writes("c := create \"abc\" ? (tab(2 | 3) & &pos); \"xy\" ? { tab(2); writes(@c, &pos, &subject, @c, &pos) }", "22xy32");
        writes("c := create { writes(&subject, &pos); &subject := \"part\"; tab(3); 1 | writes(&subject, &pos) }; \"xy\" ? { tab(2); @c; writes(&subject, &pos); @c }", "1xy2part3");
        writes("\"xy\" ? { tab(2); c := create &subject || &pos; writes(@c) }", "1");
    }

    /** What can't be looked at as a result BREAKS at the node of what looks, or of what gave it. */
    private static void lookedAt() {
        String stale = STALE.substring(1, STALE.length() - 1);
        gives(stale, "break 19 at 14");
        gives("case " + stale + " of { 1 : 2 }", "break 19 at 0");
        gives("1 & case 1 of { " + stale + " : 2 }", "break 19 at 4");
        gives("\"x\" ? " + STALE, "break 19 at 4");
        gives("1 & @create " + STALE, "break 19 at 27");
        gives("\"x\" ? (case " + STALE + " of { })", "break 19 at 7");
        GoalHouse x = whole("procedure f();local s;return " + STALE + ";end;procedure main();f();end");
        due("return breaks", x.told(0, 3), 19);
        due("at its own node", x.told(0, 4), 22);
        due("in its call", x.told(0, 10), 2);
        x = whole("procedure f();local s;suspend " + STALE + ";end;procedure main();f();end");
        due("suspend breaks", x.told(0, 3), 19);
        due("at its own node", x.told(0, 4), 22);
        // Allowed by &error, what gave the result is resumed.
        String or = "((s := \"abcd\") & ((s[3:5] :=: s) | 7))";
        writes("&error := 1; every writes(\"x\" ? " + or + "); writes(&error, &number, image(&value))", "7019&null");
        writes("&error := 1; case " + or + " of { 7 : writes(8) }; writes(&error)", "80");
        writes("&error := 1; case 7 of { " + or + " : writes(8) }; writes(&error)", "80");
        writes("&error := 1; c := create " + or + "; writes(@c, *c, &error)", "710");
        says("procedure f();local s;return " + or + ";end;procedure main();&error := 1;writes(f(), &error);end", "70");
        says("procedure f();local s;return " + STALE + ";end;procedure main();&error := 1;writes(f() | 8, &error);end", "80");
        says("procedure f();local s;suspend " + or + ";end;procedure main();&error := 1;every writes(f(), &error);end", "70");
        gives("(&error := 1) & " + or, "7 .");
    }

    private static void reckoning() {
        gives("7 + 2 | 7 - 9 | 7 * -2 | \"7\" + ' 2' | 7 / 2 | -7 / 2 | 7 / -2 | -7 / -2", "9 -2 -14 9 3 -3 -3 3 .");
        gives("7 % 2 | -7 % 2 | 7 % -2 | -7 % -2 | 6 % 3 | 0 / 5 | 0 % 5", "1 -1 1 -1 0 0 0 .");
        gives("1 / 0", "break 11 at 2");
        gives("1 % 0", "break 11 at 2");
        gives("1000000000000000000000 / 0", "break 11 at 23");
        gives("\"x\" / 0", "break 1 at 4");
        gives("0 / \"x\"", "break 1 at 2");
        gives("2 ^ 10 | 2 ^ 0 | 0 ^ 0 | 0 ^ 1 | 2 ^ -1 | 0 ^ -1 | \"2\" ^ '3' | (-2) ^ 3 | (-2) ^ 2", "1024 1 1 0 8 -8 4 .");
        gives("2 ^ \"x\"", "break 1 at 2");
        gives("\"x\" ^ -1", "break 1 at 4");
        gives("2 ^ 3 ^ 2 | (2 ^ 3) ^ 2", "512 64 .");
        gives("+5 | -5 | +\"5\" | -\"-5\" | - -5 | -'12'", "5 -5 5 5 5 -12 .");
        gives("3 < 4 | 3 <= 3 | 3 = \"3\" | 4 >= 4 | 4 > 3 | 3 ~= 4", "4 3 3 4 3 4 .");
        gives("4 < 4 | 4 <= 3 | 3 = 4 | 3 >= 4 | 4 > 4 | 3 ~= \"3\" | 4 < 3", ".");
        gives("1 < \" 2\" | 1 = \"1\" | 1 = '1'", "2 1 1 .");
        gives("1 < 1000000000000000000000 | -1000000000000000000000 < -999999999999999999999 | 1000000000000000000000 <= 999999999999999999999", "1000000000000000000000 -999999999999999999999 .");
        gives("(1 to 4) > (2 | 3)", "2 2 3 .");
        // Operands are looked at from the left.
        for (String op : new String[] {"+", "-", "*", "/", "%", "^", "<", "<=", "=", ">=", ">", "~="}) {
            gives("\"x\" " + op + " " + STALE, "break 1 at 4");
            gives(STALE + " " + op + " \"x\"", "break 19 at " + (STALE.length() + 1));
            gives("\"x\" " + op + " \"y\" | 1", "break 1 at 4");
            gives("1 " + op + " " + STALE, "break 19 at 2");
        }
        for (String op : new String[] {"||", "<<", "<<=", "==", ">>=", ">>", "~=="}) {
            gives("[] " + op + " " + STALE, "break 2 at 3");
            gives(STALE + " " + op + " []", "break 19 at " + (STALE.length() + 1));
            gives("1 " + op + " " + STALE, "break 19 at 2");
        }
        for (String op : new String[] {"++", "--", "**"}) {
            gives("&null " + op + " " + STALE, "break 3 at 6");
            gives("[] " + op + " " + STALE, "break 3 at 3");
            gives("\"a\" " + op + " " + STALE, "break 19 at 4");
            gives("group() " + op + " " + STALE, "break 19 at 8");
            gives("group() " + op + " 'a'", "break 3 at 8");
            gives("'a' " + op + " group()", "break 3 at 4");
            gives(STALE + " " + op + " []", "break 19 at " + (STALE.length() + 1));
        }
        gives("1 ||| " + STALE, "break 5 at 2");
        gives("[] ||| " + STALE, "break 19 at 3");
        gives("[] ||| 1", "break 5 at 3");
        gives("1 ||| []", "break 5 at 2");
        gives("1 === " + STALE, "break 19 at 2");
        gives("1 to " + STALE, "break 19 at 2");
        gives("\"x\" to " + STALE, "break 1 at 4");
        gives("1 to \"x\" by " + STALE, "break 1 at 2");
        gives("1 to 2 by " + STALE, "break 19 at 2");
        writes("&error := 3; 1 + \"x\"; writes(&number, image(&value)); [] + \"x\"; writes(&number, image(&value)); &null ++ [1]; writes(&number, image(&value))", "1\"x\"1list_1(0)3&null");
    }

    private static void sets() {
        gives("'abc' ++ 'cd' | 'abc' -- 'cd' | 'abc' ** 'cd' | \"ab\" ++ 12 | '' ** 'a'", "'abcd' 'ab' 'c' '12ab' '' .");
        gives("*~'' | *~'a' | *~&all | ~~'ab' | *~12", "256 255 0 'ab' 254 .");
        gives("~[]", "break 3 at 0");
        gives("!(group([3, 1]) ++ group([2, 1, 4])) | \"-\" | !(group([3, 1, 5]) -- group([1])) | \"-\" | !(group([3, 1, 5]) ** group([5, 3]))", "3 1 2 4 \"-\" 3 5 \"-\" 3 5 .");
        gives("(g := group([1])) & ((g ++ g) ~=== g) & *g", "1 .");
        gives("*(group() ++ group()) | *(group([1, \"1\", '1', &null]) ++ group(['1', []]))", "0 5 .");
    }

    private static void sizes() {
        gives("*\"\" | *\"abc\" | *123 | *-123 | *0 | *''", "0 3 3 4 1 0 .");
        gives("*'aba' | *&all | *[] | *[1, 2] | *group([1, 1]) | *table()", "2 256 0 2 1 0 .");
        says("record r(a, b);record e();procedure main();c := create 1 to 3;@c;@c;t := table();t[1] := t[2] := 3;writes(*r(1), *e(), *c, *t, *^c);end", "20220");
        for (String op : new String[] {"*", "!", "?"}) {
            gives(op + "&null", "break 10 at 0");
            gives(op + "main", "break 10 at 0");
            gives(op + "write", "break 10 at 0");
            gives(op + STALE, "break 19 at 0");
        }
        gives("!create 1", "break 10 at 0");
        gives("?create 1", "break 10 at 0");
        gives("*create 1", "0 .");
        writes("c := create 1 | 2; @c; @c; @c; @c; writes(*c)", "2");
    }

    private static void draws() {
        String drawn = (1 + 12345 / 16 % 10) + "";
        gives("(&random := 0) & (?10) | &random", drawn + " 12345 .");
        gives("(&random := 0) & (?[7, 8, 9] | ?1)", "7 1 .");
        gives("((&random := 0) & ?\"ab\") | ((&random := 0) & ?'dc') | ((&random := 0) & ?group([5, 6]))", "\"b\" \"d\" 6 .");
        gives("(&random := 2147483647) & (?7 & &random)", ((2147483647L * 1103515245L + 12345L) & 0x7fffffffL) + " .");
        gives("(&random := 0) & (?0 | ?-5 | ?\"\" | ?'' | ?[] | ?group() | ?table() | &random)", "0 .");
        gives("(&random := 0) & ?1000000000000000000000", (1 + 12345 / 16) + " .");
        gives("(&random := 0) & (l := [1, 2, 3]) & (?l := 9) & !l", "9 2 3 .");
        says("record r(a, b);procedure main();p := r(1, 2);&random := 0;?p := 9;t := table();t[1] := t[2] := 3;&random := 0;?t := 9;writes(p.a, p.b, t[1], t[2]);end", "1993");
        gives("((&random := 0) & ?12 & &random) | ((&random := 0) & ?\"12\")", "12345 \"2\" .");
    }

    private static void each() {
        gives("!\"ab\" | !-12 | !'ba' | !\"\" | ![] | !''", "\"a\" \"b\" \"-\" \"1\" \"2\" \"a\" \"b\" .");
        writes("l := [1, 2]; every x := !l do { writes(x); if *l < 5 then put(l, *l + 1) }", "12345");
        writes("l := [1, 2, 3, 4]; every writes(!l) do get(l)", "13");
        writes("l := [1, 2, 3, 4]; every writes(!l) do pull(l)", "12");
        writes("l := [1, 2, 3]; every !l := 5; every writes(!l)", "555");
        writes("t := table(); t[2] := t[1] := 0; every x := key(t) do { writes(x); if x < 4 then t[x + 2] := 0 }", "12345");
        writes("t := table(); t[3] := t[2] := t[1] := 0; every x := key(t) do { writes(x); delete(t, 2) }", "13");
        writes("n := 0; t := table(); t[1] := 1; t[2] := 2; every x := !t do { writes(x); if (n +:= 1) = 1 then { delete(t, 1); t[1] := 7 } }", "127");
        writes("n := 0; t := table(); t[1] := 1; t[2] := 2; every x := !t do { writes(x); if (n +:= 1) = 2 then { delete(t, 1); delete(t, 2); t[5] := 7 } }", "127");
        writes("g := group([1, 2]); every x := !g do { writes(x); if x < 4 then insert(g, x + 2); delete(g, x) }", "12345");
        writes("t := table(); t[3] := 4; every !t := 5; writes(t[3])", "5");
        writes("s := \"abc\"; every x := !s do { writes(x); s := \"xyz\" }", "abc");
    }

    private static void inFront() {
        gives("(x := 5) & (\\x := 6) & (/x | x)", "6 .");
        gives("(/x := 5) & (/x | \\x | .x)", "5 5 .");
        gives("/&null | \\&null | /1 | \\1 | /0 | \\\"\"", "&null 1 \"\" .");
        gives("(x := 5) & (.x := 6)", "break 4 at 15");
        gives("/" + STALE, "break 19 at 0");
        gives("\"hello\" ? { =\"he\" || &pos }", "\"he3\" .");
        gives("\"hello\" ? (=\"el\" | &pos)", "1 .");
        gives("\"hello\" ? (((=\"he\" & =\"ll\") & &fail) | &pos)", "1 .");
        gives("(\"12\" ? =12) | (\"ab\" ? ='ba') | (\"ab\" ? =\"\")", "\"12\" \"ab\" \"\" .");
        gives("\"a\" ? =[]", "break 2 at 6");
        gives("(1 to 3) | (3 to 1) | (3 to 1 by -1) | (1 to 10 by 4) | (1 to 1) | (1 to 1 by -1) | (1 to 2 by -1)", "1 2 3 3 2 1 1 5 9 1 1 .");
        gives("(\"1\" to ' 2' by '1') | (" + many("9", 60) + " to " + many("9", 60) + ")", "1 2 " + many("9", 60) + " .");
        gives("-" + many("9", 60) + " to -" + many("9", 60) + " by -1", "-" + many("9", 60) + " .");
        gives("1 to 2 by 0", "break 11 at 2");
        gives("1 to 2 by \"0\"", "break 11 at 2");
        gives("1 to [] by 0", "break 1 at 2");
        gives("[] to 1 by 0", "break 1 at 3");
        gives("1 to 2 by []", "break 1 at 2");
        gives("2 to 1 by 0", "break 11 at 2");
    }

    public static void main(String[] args) {
        alternatives();
        limits();
        conditions();
        cases();
        scannings();
        lookedAt();
        reckoning();
        sets();
        sizes();
        draws();
        each();
        inFront();
        end();
    }
}
