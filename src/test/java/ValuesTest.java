/** Section 3 of the document: VALUES, CELLS, kinds taken as others, ALIKE, THE ORDER, PLACES, IMAGE. */
public final class ValuesTest extends Check {
    private static final String NINES = many("9", 60);

    private ValuesTest() {
    }

    private static void wholes() {
        gives(NINES, NINES + " .");
        gives("-" + NINES, "-" + NINES + " .");
        gives(NINES + " + 0", NINES + " .");
        gives(NINES + " + 1", "break 12 at 61");
        gives("-" + NINES + " - 1", "break 12 at 62");
        gives("-" + NINES + " - -1", "-" + many("9", 59) + "8 .");
        gives("5" + many("0", 59) + " + 4" + many("9", 59), NINES + " .");
        gives("5" + many("0", 59) + " * 2", "break 12 at 61");
        gives("-5" + many("0", 59) + " * 2", "break 12 at 62");
        gives("3" + many("3", 59) + " * 3", NINES + " .");
        gives(many("9", 30) + " * " + many("9", 30), many("9", 29) + "8" + many("0", 29) + "1 .");
        gives(NINES + " / " + NINES + " | " + NINES + " % 7 | -" + NINES + " / 10", "1 0 -" + many("9", 59) + " .");
        gives("999999999999999999 + 1 | 1000000000000000000 - 1 | -999999999999999999 - 1 | 1000000000 * 1000000000", "1000000000000000000 999999999999999999 -1000000000000000000 1000000000000000000 .");
        gives("9223372036854775807 + 1 | -9223372036854775808 - 1 | 4294967296 * 4294967296", "9223372036854775808 -9223372036854775809 18446744073709551616 .");
        gives("1000000000000000000000 / 1000000000 | 1000000000000000000001 % 1000000000000 | -1000000000000000000001 % 1000000000000", "1000000000000 1 -1 .");
        gives("123456789012345678901234567890 / 987654321098765 | 123456789012345678901234567890 % 987654321098765", 
            new java.math.BigInteger("123456789012345678901234567890").divide(new java.math.BigInteger("987654321098765")) + " "
            + new java.math.BigInteger("123456789012345678901234567890").mod(new java.math.BigInteger("987654321098765")) + " .");
        gives("-0 | 0 * -5 | -0 === 0", "0 0 0 .");
    }

    /** AS A WHOLE: blanks, perhaps + or -, 1 to 60 digits, blanks. */
    private static void asWholes() {
        gives("+\"12\" | +\"  +12  \" | +\" -12\" | +\"-0\" | +\"007\" | +\"" + NINES + "\" | +\"-" + NINES + "\"", "12 12 -12 0 7 " + NINES + " -" + NINES + " .");
        gives("+\"" + many("0", 59) + "5\"", "5 .");
        gives("+'12' | +'-1' | +'1+' | +' 3'", "12 -1 1 3 .");
        String[] none = {"\"\"", "\" \"", "\"+\"", "\"-\"", "\"- 1\"", "\"+-1\"", "\"1 2\"", "\"1-\"", "\"1+\"", "\"\\t1\"", "\"1\\n\"", "\"1.0\"", "\"1e3\"", "\"0x1\"", "\"2r1\"",
            "\"" + many("0", 61) + "\"", "\"" + many("9", 61) + "\"", "''", "'a'", "'+-'", "&null", "[]", "write", "main", "create 1", "table()", "group()"};
        for (String v : none) {
            gives("+(" + v + ")", "break 1 at 0");
            gives("whole(" + v + ")", ".");
        }
    }

    private static void asTexts() {
        gives("\"ab\" || \"\" | 12 || \"\" | -12 || \"\" | 0 || \"\" | 'cba' || \"\" | '' || \"\"", "\"ab\" \"12\" \"-12\" \"0\" \"abc\" \"\" .");
        gives("-" + NINES + " || \"\" | *(-" + NINES + " || \"\")", "\"-" + NINES + "\" 61 .");
        gives("*(&all || \"\") | (&all || \"\")[1] | (&all || \"\")[0-:1]", "256 \"\\x00\" \"\\xff\" .");
        for (String v : new String[] {"&null", "[]", "write", "main", "(create 1)", "table()", "group()"}) {
            gives(v + " || \"\"", "break 2 at " + (v.length() + 1));
            gives("\"\" || " + v, "break 2 at 3");
            gives("text(" + v + ")", ".");
        }
    }

    private static void asSets() {
        gives("'ab' ++ '' | \"bab\" ++ '' | 121 ++ '' | -1 ++ \"\" | \"\" ++ \"\"", "'ab' 'ab' '12' '-1' '' .");
        for (String v : new String[] {"&null", "[]", "write", "main", "(create 1)", "table()", "group()"}) {
            gives(v + " ++ ''", "break 3 at " + (v.length() + 1));
            gives("'' ++ " + v, "break 3 at 3");
            gives("'' -- " + v, "break 3 at 3");
            gives("'' ** " + v, "break 3 at 3");
            gives("set(" + v + ")", ".");
        }
    }

    private static void alike() {
        gives("1 === 1 | \"1\" === \"1\" | '1' === '1' | &null === &null | write === write | main === main", "1 \"1\" '1' &null built-in write procedure main .");
        gives("1 === \"1\" | 1 === '1' | \"1\" === '1' | &null === 0 | \"\" === '' | [] === [] | write === writes", ".");
        gives("1 ~=== \"1\" | [] ~=== [] | 1 ~=== 1", "\"1\" list_2(0) .");
        gives("(x := []) === x | (x := create 1) === x | (x := table()) === x | proc(\"main\") === main | 'ab' === 'ba'", "list_1(0) part_2(0) table_3(0) procedure main 'ab' .");
        gives("1000000000000000000000 === \"1000000000000000000000\" + 0 | " + NINES + " === -" + NINES, "1000000000000000000000 .");
        gives("(x := copy(y := [1])) === y | *x", "1 .");
    }

    private static void order() {
        says("record r();procedure f();end;procedure main();c := create 1;d := create 2;t := table();g := group();a := r();l := [];h := group();"
            + "every writes(image(!sort([d, c, a, t, h, g, l, write, r, main, f, abs, 'b', 'a', \"b\", \"\", 10, 9, -1, &null])), \" \");end",
            "&null -1 9 10 \"\" \"b\" 'a' 'b' built-in abs procedure f procedure main record r built-in write list_6(0) group_4(0) group_7(0) table_3(0) r_5(0) part_1(0) part_2(0) ");
        gives("!sort([\"b\", \"ab\", \"a\", \"\", \"\\xff\", \"\\x7f\", \"a\\x00\"])", "\"\" \"a\" \"a\\x00\" \"ab\" \"b\" \"\\x7f\" \"\\xff\" .");
        gives("!sort(['b', 'ab', 'a', '', '\\xff', 'abc', 'ac'])", "'' 'a' 'ab' 'abc' 'ac' 'b' '\\xff' .");
        gives("!sort([5, -5, 1000000000000000000000, -1000000000000000000000, 0, 999999999999999999999])", "-1000000000000000000000 -5 0 5 999999999999999999999 1000000000000000000000 .");
        gives("\"a\" << \"ab\" | \"ab\" << \"a\" | \"a\" << \"a\" | \"B\" << \"a\" | \"\\x7f\" << \"\\x80\" | \"\" << \"\\x00\"", "\"ab\" \"a\" \"\\x80\" \"\\x00\" .");
        gives("\"a\" <<= \"a\" | \"a\" >>= \"a\" | \"a\" == \"a\" | \"a\" ~== \"a\" | \"a\" >> \"a\" | \"b\" >> \"a\" | \"b\" ~== \"a\" | \"b\" >>= \"a\"", "\"a\" \"a\" \"a\" \"a\" \"a\" \"a\" .");
        gives("9 << 10 | 10 << 9 | 'ba' == \"ab\" | \"ab\" == 'ba'", "\"9\" \"ab\" \"ab\" .");
    }

    private static void places() {
        gives("\"abc\"[1:(-5 to 6)]", "\"\" \"a\" \"ab\" \"abc\" \"\" \"a\" \"ab\" \"abc\" .");
        gives("\"abc\"[(-5 to 6):1]", "\"\" \"a\" \"ab\" \"abc\" \"\" \"a\" \"ab\" \"abc\" .");
        gives("\"\"[1:(-2 to 3)]", "\"\" \"\" .");
        gives("\"abc\"[-4 to 4]", "\"a\" \"b\" \"c\" \"a\" \"b\" \"c\" .");
        gives("[7, 8, 9][-4 to 4]", "7 8 9 7 8 9 .");
        gives("[][-1 to 1] | \"\"[-1 to 1]", ".");
        gives("123[-4 to 4] | 'ba'[-1 to 1]", "\"1\" \"2\" \"3\" \"1\" \"2\" \"3\" \"b\" \"a\" .");
        says("record r(a, b);procedure main();every writes(r(7, 8)[-3 to 3], \" \");end", "7 8 7 8 ");
        gives("*[7, 8, 9][1:(-4 to 5)]", "0 1 2 3 0 1 2 3 .");
        // i is counted as 1 .. size + 1, i + n and i - n have to be 1 .. size + 1 themselves.
        gives("\"abc\"[1+:(-1 to 4)]", "\"\" \"a\" \"ab\" \"abc\" .");
        gives("\"abc\"[2+:(-2 to 3)]", "\"a\" \"\" \"b\" \"bc\" .");
        gives("\"abc\"[0+:(-4 to 1)]", "\"abc\" \"bc\" \"c\" \"\" .");
        gives("\"abc\"[-1+:(-3 to 2)]", "\"ab\" \"b\" \"\" \"c\" .");
        gives("\"abc\"[4-:(-1 to 4)]", "\"\" \"c\" \"bc\" \"abc\" .");
        gives("\"abc\"[0-:2] | \"abc\"[-3-:1] | \"abc\"[-3+:1] | \"abc\"[5+:0] | \"abc\"[-4+:0]", "\"bc\" \"a\" .");
        gives("*[7, 8, 9][2+:(-2 to 3)]", "1 0 1 2 .");
        gives("\"abc\"[1000000000000000000000] | \"abc\"[-1000000000000000000000:1] | \"abc\"[1+:1000000000000000000000] | \"abc\"[1-:-9223372036854775808]", ".");
        gives("[7][4294967297] | [7][-4294967297] | \"abc\"[4294967297] | \"abc\"[1:4294967298] | \"abc\"[4294967297+:1]", ".");
    }

    private static void images() {
        gives("&null | 0 | -5 | \"a\\\"'\\\\\\n\\t\\x00\\x1f\\x7f\\xff \" | 'a\"\\'\\\\\\n'", "&null 0 -5 \"a\\\"'\\\\\\n\\t\\x00\\x1f\\x7f\\xff \" '\\n\"\\'\\\\a' .");
        says("record rec(a, b);procedure main();l := [1, 2, 3];c := create 1 to 4;every |@c \\ 4;"
            + "every writes(image(main | rec | write | l | group([1]) | (t := table()) | rec() | c | &letters), \"; \");end",
            "procedure main; record rec; built-in write; list_1(3); group_4(1); table_5(0); rec_6(2); part_2(4); 'ABCDEFGHIJKLMNOPQRSTUVWXYZabcdefghijklmnopqrstuvwxyz'; ");
        gives("image(\"\\\"\")", "\"\\\"\\\\\\\"\\\"\" .");
        GoalHouse x = whole("global t, u;procedure main();t := repl(\"\\x00\", 500);u := &all;end");
        due("a long image", x.show(0, 0, 0, 0), 2002);
        due("its last byte", x.shown(2001), '"');
        due("behind it", x.shown(2002), -1);
        due("ahead of it", x.shown(-1), -1);
        due("image of all bytes", x.show(0, 0, 1, 0), 30 * 4 + 2 * 2 + 95 + 2 + 129 * 4 + 2);
        gives("*image(repl(\"a\", 498))", "500 .");
        gives("image(repl(\"a\", 499))", "break 13 at 5");
        gives("image(&all)", "break 13 at 5");
    }

    private static void cells() {
        writes("x := 1; [x][1] := 2; x +:= 1; write(x)", "2\n");
        says("global g;record r(f);procedure f(a);static s;/s := 0;s +:= 1;a := s;return a;end;procedure main();g := 5;p := r(1);p.f := 2;l := [1];l[1] := 3;t := table();t[1] := 4;"
            + "every !l | !p | !t +:= 1;f();write(g, p.f, l[1], t[1], f());end", "53452\n");
        for (String none : new String[] {"1", "\"a\"", "'a'", "&null", "&number", "&value", "&letters", "&digits", "&lower", "&upper", "&all", ".x", "\"abc\"[1]", "\"abc\"[1:2]", "123[1]",
            "(1 + 1)", "write()", "?\"a\"", "!\"a\"", "?group([1])", "!group([1])", "(create 1)", "[1]", "pos(1)", "x === x", "()", "{ }", "copy(1)", "[1][1:2]", "tab(1)", "key(t)"}) {
            breaks("x := 1; t := table(); t[1] := 1; (" + none + ") := 1", 4);
        }
        for (String some : new String[] {"x", "main", "write", "&subject", "&pos", "&random", "&error", "(x & y)", "(&fail | x)", "(if 1 then x)", "{ 1; x }", "/y", "\\x", "?[1]", "![1]", "[1][1]", "t[5]", "x[1]", "x[1:2]",
            "x[1:2][1]", "t[9][1]", "(y := 1)", "case 1 of { 1 : x }", "(x \\ 1)", "(|x)", "(repeat break x)", "(y <- 2)", "(x +:= 1)"}) {
            breaks("x := \"12\"; t := table(\"ab\"); " + some + " := 1", 0);
        }
        breaks("(\"abc\" ? x) := 1", 4);
        breaks("\"abc\" ? (&subject[1] := 2)", 4);
        breaks("\"abc\" ? (&subject[1:2] := 2)", 4);
        // A section is of a cell whose value is a text.
        breaks("x := 12; x[1] := 3", 4);
        breaks("x := 'ab'; x[1:2] := 3", 4);
        breaks("x := \"\"; x[1:1] := 3", 0);
        // A procedure's NAME is a global that has it at first.
        says("procedure f();return 1;end;procedure main();g := f;f := 5;write(f, g(), f === 5);write := writes;write(image(main), image(proc(\"write\")), image(write));end", "515\nprocedure mainbuilt-in writebuilt-in writes");
        says("record r(a);procedure main();m := r;r := 7;writes(r, image(m), image(m(1)), image(proc(\"r\")));end", "7record rr_1(1)record r");
        // A global that is told hides a BUILT-IN one of its NAME, and is NULL at first.
        says("global abs;procedure main();write(image(abs), image(proc(\"abs\")), \"abs\"(-3));abs := 4;write(abs);end", "&nullbuilt-in abs3\n4\n");
        GoalHouse x = whole("procedure main();write(image(max));max := 1;end");
        due("a BUILT-IN one's NAME in a goal", results(x, "max", 2), "1 .");
        x.back(0, 100);
        due("it is so again behind back()", out(x, 0), "built-in max\n");
    }

    /** Texts have up to 500 bytes. */
    private static void longest() {
        gives("*repl(\"a\", 500)", "500 .");
        gives("repl(\"a\", 501)", "break 13 at 4");
        gives("*(repl(\"a\", 499) || \"b\")", "500 .");
        gives("repl(\"a\", 499) || \"bc\"", "break 13 at 15");
        gives("(x := repl(\"a\", 499)) & (x[1] := \"bc\") & *x", "500 .");
        gives("(x := repl(\"a\", 499)) & (x[1] := \"bcd\") & *x", "break 13 at 30");
        gives("(x := repl(\"a\", 500)) & (x[1:1] := \"\") & *x", "500 .");
        GoalHouse x = whole("procedure main();while write(*read());end", many("a", 500) + "\n" + many("b", 501));
        due("a line of 500 bytes", out(x, 0), "500\n");
        due("a line of 501 bytes", x.told(0, 3), 13);
    }

    public static void main(String[] args) {
        wholes();
        asWholes();
        asTexts();
        asSets();
        alike();
        order();
        places();
        images();
        cells();
        longest();
        end();
    }
}
