/** Section 4 of the document: assigning, sections, elements, fields. */
public final class CellsTest extends Check {
    private static final String STALE = "((s := \"abcd\") & (s[3:5] :=: s))";

    private CellsTest() {
    }

    private static void assigning() {
        gives("((x := 5) | (x := 6)) := (7 | 8)", "7 8 7 8 .");
        gives("(x := y := 3) & x + y", "6 .");
        gives("((x := 1) := 2) & x", "2 .");
        gives("(x := 1 | 2 | 3) & x", "1 2 3 .");
        gives("1 := 2", "break 4 at 2");
        gives("1 := " + STALE, "break 4 at 2");
        gives("x := " + STALE, "break 19 at 2");
        gives("(x := 5) & (((x <- 6) & &fail) | x)", "5 .");
        gives("(x := 5) & (((x <- 6 | 7) & x & &fail) | x)", "5 .");
        gives("(x := 5) & ((x <- 6 | 7) & x)", "6 7 .");
        gives("(x := 5) & (((x <- 6) & (x := 8) & &fail) | x)", "5 .");
        // Only <- and <-> put back.
        gives("(x := 5) & (((x := 6) & &fail) | x)", "6 .");
        gives("(x := 1) & (y := 2) & (((x :=: y) & &fail) | x | y)", "2 1 .");
        gives("(x := 5) & (((x +:= 6) & &fail) | x)", "11 .");
        gives("(x := \"ab\") & (((x[1] := \"c\") & &fail) | x)", "\"cb\" .");
        gives("(x := \"ab\") & (((x[1] :=: x[2]) & &fail) | x)", "\"ba\" .");
        gives("\"abc\" ? (((&pos := 3) & &fail) | &pos)", "3 .");
        // What was put back is put again as b gives more.
        gives("(x := 5) & ((x <- 6 | 7) & (&fail | x)) | x", "6 7 5 .");
        gives("(x := 5) & (((x <- 6 | 7) & (x := x + 10) & &fail) | x)", "5 .");
        gives("(x := 1) & (y := [2, 3]) & (((x <-> !y) & &fail) | x | !y)", "1 2 3 .");
        gives("1 <- 2", "break 4 at 2");
        gives("(x := 1) & (y := 2) & (x :=: y) & (x | y)", "2 1 .");
        gives("(x := 1) & (x :=: x) & x", "1 .");
        gives("(x := 1) & (y := 2) & (((x <-> y) & &fail) | x | y)", "1 2 .");
        gives("(x := 1) & (y := 2) & (x <-> y) & (x | y)", "2 1 .");
        gives("(x := 1) & (y := 2) & (((x <-> y) & (x := 7) & (y := 8) & &fail) | x | y)", "1 2 .");
        gives("(x := [1, 2]) & (x[1] :=: x[2]) & !x", "2 1 .");
        for (String op : new String[] {":=:", "<->"}) {
            gives("1 " + op + " x", "break 4 at 2");
            gives("x " + op + " 1", "break 4 at 2");
            gives("1 " + op + " 2", "break 4 at 2");
            gives("x " + op + " " + STALE, "break 19 at 2");
        }
        gives("(x := 5) & (&error := 1) & (x :=: &pos) & x", ".");
        // If b can't get its value a keeps the new one.
        writes("x := 5; \"abc\" ? { tab(2); x :=: &pos; writes(x, &pos) }; x := 1; \"abc\" ? { tab(2); x :=: &pos; writes(x, &pos) }", "2221");
        writes("x := 5; &error := 1; x :=: &random; writes(x, &random, &error, &number); x := -1; &random := 9; x :=: &random; writes(x)", "1519");
    }

    private static void withSigns() {
        gives("(x := 5) & (x +:= 2) & x", "7 .");
        gives("(x := 5) & ((x -:= 2) | (x *:= 4) | (x /:= 5) | (x %:= 2) | (x ^:= 3))", "3 12 2 0 0 .");
        gives("(x := 'ab') & ((x ++:= 'c') | (x --:= 'a') | (x **:= 'bz'))", "'abc' 'bc' 'b' .");
        gives("(x := \"ab\") & (x ||:= \"c\") & x", "\"abc\" .");
        gives("(x := [1]) & (x |||:= [2]) & !x", "1 2 .");
        gives("((x := 2) & (x ^:= -1)) | x", "2 .");
        gives("1 +:= \"x\"", "break 4 at 2");
        gives("1 +:= " + STALE, "break 4 at 2");
        gives("(x := \"a\") & (x +:= 1)", "break 1 at 16");
        gives("((x := 1) & (x +:= 1 | 2 | 3) & &fail) | x", "7 .");
        gives("(x := 1) & (x /:= 0)", "break 11 at 14");
        gives("(x := 5) & (x +:= (x := 7)) & x", "14 .");
        gives("(x := 1) & (x +:= \"2\") & x", "3 .");
        gives("(&pos +:= 0) | (&pos +:= 1)", "1 .");
        gives("\"abc\" ? ((&pos +:= 2) & &pos)", "3 .");
        gives("\"abc\" ? ((&subject ||:= \"d\") & (&pos | *&subject))", "1 4 .");
        gives("(&random := 5) & (&random *:= 3) & &random", "15 .");
        gives("(&random := 5) & (&random -:= 6)", "break 20 at 26");
    }

    private static void keys() {
        gives("\"abc\" ? (&pos := (1 | 4 | 0 | -3 | \"2\" | '3'))", "1 4 4 1 2 3 .");
        gives("\"abc\" ? ((&pos := (5 | -4 | 1000000000000000000000 | 4294967297)) | &pos)", "1 .");
        gives("\"abc\" ? (&pos := [])", "break 1 at 14");
        gives("\"abc\" ? (&pos := &null)", "break 1 at 14");
        gives("\"abc\" ? ((&pos := 3) & (&subject := 12) & (&pos | &subject))", "1 \"12\" .");
        gives("&subject := []", "break 2 at 9");
        gives("&subject := &null", "break 2 at 9");
        gives("(&random := (0 | 2147483647 | \"7\")) & &random", "0 2147483647 7 .");
        gives("&random := 2147483648", "break 20 at 8");
        gives("&random := -1", "break 20 at 8");
        gives("&random := 1000000000000000000000", "break 20 at 8");
        gives("&random := \"x\"", "break 1 at 8");
        gives("&error := 1001", "break 20 at 7");
        gives("&error := -1", "break 20 at 7");
        gives("&error := []", "break 1 at 7");
        gives("(&error := (0 | \"0\")) & &error", "0 0 .");
        writes("&error := 1000; writes(&error); &error := 1001; writes(&error, &number, image(&value)); &error := 0; writes(&error)", "100099920&null0");
        gives("\"abc\" ? (((&pos <- 3) & &fail) | &pos)", "1 .");
        gives("\"abc\" ? { &pos := 2; ((&subject <- \"xy\") & (&pos := 3) & &fail) | &subject | &pos }", "\"abc\" 1 .");
        gives("\"abc\" ? { &pos := 4; ((&pos <- 2) & (&subject := \"x\") & &fail) | &pos | &subject }", "1 \"x\" .");
        gives("(&random := 5) & (((&random <- 9) & &fail) | &random)", "5 .");
    }

    private static void sections() {
        gives("(x := \"abcdef\") & (x[2:4] := \"-\") & x", "\"a-def\" .");
        gives("(x := \"abc\") & (x[2:2] := \"xyz\") & x", "\"axyzbc\" .");
        gives("(x := \"abc\") & (x[0:0] := \"d\") & x", "\"abcd\" .");
        gives("(x := \"abc\") & (x[3:1] := 12) & x", "\"12c\" .");
        gives("(x := \"abc\") & (x[-1] := 'zy') & x", "\"abyz\" .");
        gives("(x := \"abc\") & (x[2] := []) & x", "break 2 at 21");
        gives("(x := \"abc\") & (x[2] := \"xyz\")", "\"xyz\" .");
        gives("(x := \"abc\") & ((x[2] := \"xyz\") := \"-\") & x", "\"a-c\" .");
        gives("(x := \"abcdef\") & (x[2:6][2:4] := \"-\") & x", "\"ab-ef\" .");
        gives("(x := \"abcdef\") & (x[2:6][0:-2] := \"\") & x", "\"abcf\" .");
        gives("(x := \"abc\") & ((x[1] :=: x[3])) & x", "\"cba\" .");
        gives("(x := \"abc\") & (x[1:1] :=: x[2:4]) & x", "\"bbc\" .");
        gives("(x := [\"ab\"]) & (x[1][2] := \"-\") & !x", "\"a-\" .");
        gives("(t := table(\"ab\")) & (t[1][2] := \"-\") & (t[1] | t[2] | *t)", "\"a-\" \"ab\" 1 .");
        gives("(x := \"abc\") & ((x[1:3] <- \"\") & x)", "\"c\" .");
        gives("(x := \"abc\") & (((x[1:3] <- \"\") & &fail) | x)", "\"abc\" .");
        gives("(x := \"abcd\") & (((x[1:3] <-> x[3]) & &fail) | x)", "\"abcc\" .");
        gives("(x := \"abc\") & (x[1:3] <-> x[3])", "break 19 at 23");
        gives("(x := \"abc\") & (x[1] ||:= \"-\") & x", "\"a-bc\" .");
        gives("(x := \"12\") & (x[2] +:= 9) & x", "\"111\" .");
        // What it is is looked at when its value is asked for.
        gives("(x := \"abc\") & (x[2:4] || (x := \"wxyz\"))", "\"xywxyz\" .");
        gives("(x := \"abc\") & (x[2:4] || (x := \"wx\"))", "break 19 at 23");
        gives("(x := \"abc\") & (x[2:4] || (x := 123456))", "break 19 at 23");
        gives("(x := \"abc\") & (x[2:3] || (x := \"wx\"))", "\"xwx\" .");
        gives("(x := \"abc\") & (x[4:4] || (x := \"wx\"))", "break 19 at 23");
        gives("(x := \"abc\") & (x[3:3] || (x := \"wx\"))", "\"wx\" .");
        gives("(x := \"abc\") & (x[2:4] := (x := \"wx\"))", "break 19 at 23");
        gives("(x := \"abc\") & (x[2:4] := (x := 1234))", "break 19 at 23");
        gives("(x := \"abc\") & (x[2:4] := (x := \"wxyz\")) & x", "\"wwxyzz\" .");
        gives("(x := \"abc\") & (x[2:4] := ((x := \"w\") & &null))", "break 2 at 23");
        gives("(x := \"abc\") & (x[2:4] <- ((x := \"w\") & &null))", "break 19 at 23");
        gives("(x := \"abc\") & (x[2:4] ||:= ((x := \"w\") & &null))", "break 19 at 23");
        // What can't be put back stays.
        gives("(x := \"abcd\") & (((x[3:5] <- \"-\") & (x := \"ab\") & &fail) | x)", "\"ab\" .");
        gives("(x := \"abcd\") & (((x[3:5] <- \"-\") & (x := \"abz\") & &fail) | x)", "\"abcd\" .");
        gives("(x := 123) & (x[2] | x[1:3])", "\"2\" \"12\" .");
        gives("(x := 'cab') & (x[2] | x[1:3])", "\"b\" \"ab\" .");
        gives("\"abc\" ? (&subject[2] | &subject[2:4])", "\"b\" \"bc\" .");
    }

    private static void elements() {
        gives("(x := [1, 2, 3]) & (x[2] := 5) & !x", "1 5 3 .");
        gives("([1, 2][3] := 5) | 6", "6 .");
        gives("*([1, 2, 3][1:3]) | [1, 2, 3][2:0][2] | ([1, 2][1:2] === [1])", "2 3 .");
        gives("(x := [1, 2]) & (y := x[1:3]) & (y[1] := 9) & (x | y)[1]", "1 9 .");
        gives("[1][\"x\"]", "break 1 at 3");
        gives("[1][&null]", "break 1 at 3");
        gives("[1][\"1\"] | [1]['1']", "1 1 .");
        gives("[1][" + STALE + "]", "break 19 at 3");
        gives("&null[1]", "break 10 at 5");
        gives("&null[" + STALE + "]", "break 10 at 5");
        gives("main[1]", "break 10 at 4");
        gives("group([1])[1]", "break 10 at 10");
        gives("(create 1)[1]", "break 10 at 10");
        gives(STALE + "[[]]", "break 19 at " + STALE.length());
        gives("table()[1:2]", "break 10 at 7");
        gives(STALE + "[1:2]", "break 19 at " + STALE.length());
        gives(STALE + "[[]:[]]", "break 19 at " + STALE.length());
        gives("\"abc\"[" + STALE + ":[]]", "break 19 at 5");
        gives("\"abc\"[1:" + STALE + "]", "break 19 at 5");
        gives("[" + STALE + "]", "break 19 at 0");
        gives("[1, " + STALE + "]", "break 19 at 0");
        gives("group()[1:2]", "break 10 at 7");
        gives("&null[1:2]", "break 10 at 5");
        gives("main[[]:2]", "break 10 at 4");
        gives("\"abc\"[[]:" + STALE + "]", "break 1 at 5");
        gives("\"abc\"[1:[]]", "break 1 at 5");
        gives("\"abc\"[9:[]]", "break 1 at 5");
        gives("\"abc\"[1+:[]]", "break 1 at 5");
        GoalHouse x = whole("record r(a, b);procedure main();p := r(1, 2);p[2] := 7;p.a := 8;write(p[-2], p.b);p[1:2];end");
        due("a record's elements", out(x, 0), "87\n");
        due("a record has no sections", x.told(0, 3), 10);
        says("record r(a);record q(b, a);procedure main();writes(r(1).a, q(1, 2).a);(p := q()).a := 5;writes(p.a, image(p.b));end", "125&null");
        x = whole("record r(a);record q(b);procedure main();p := q(1);p.a;end");
        due("no such field", x.told(0, 3), 8);
        gives("1.a", "break 8 at 1");
        gives("&null.a", "break 8 at 5");
        gives(STALE + ".a", "break 19 at " + STALE.length());
    }

    private static void tables() {
        gives("(t := table(7)) & (t[1] | *t | (t[1] := 2) | *t | t[1] | t[\"1\"])", "7 0 2 1 2 7 .");
        gives("(t := table()) & (t[1] := 2) & (t[1] := 3) & (*t | t[1])", "1 3 .");
        gives("(t := table()) & (t[&null] | (t[] := 2))", "fault 2 at 32");
        gives("(t := table(0)) & (t[()] +:= 1) & (t['ba'] +:= 2) & (t[\"ab\"] +:= 4) & (t[&null] | t['ab'] | t[\"ab\"] | *t)", "1 2 4 3 .");
        gives("(t := table(0)) & (t[1] +:= 5) & t[1]", "5 .");
        // It is looked for anew whenever it is assigned to and when it is looked at.
        gives("(t := table(0)) & (t[1] + (t[1] := 5))", "10 .");
        gives("(t := table(0)) & (t[1] := (t[1] := 5) + 1) & (t[1] | *t)", "6 1 .");
        gives("(t := table(0)) & (t[1] + (insert(t, 1, 4) & 1))", "5 .");
        gives("(t := table(0)) & (t[1] := 3) & (t[1] + (delete(t, 1) & 1))", "4 .");
        gives("(t := table(0)) & (t[1] := 3) & (t[1] := (delete(t, 1) & 8)) & (t[1] | *t)", "0 0 .");
        gives("(t := table(0)) & (t[1] := (insert(t, 1, 3) & delete(t, 1) & 8)) & (t[1] | *t)", "8 1 .");
        gives("(t := table(0)) & (((t[1] <- 5) & &fail) | t[1] | *t)", "0 1 .");
        gives("(t := table(0)) & (((t[1] <- 5) & delete(t, 1) & &fail) | t[1] | *t)", "0 1 .");
        gives("(t := table(0)) & (t[1] := 3) & (((t[1] <- 5) & delete(t, 1) & &fail) | t[1] | *t)", "0 0 .");
        gives("(t := table(0)) & (t[1] :=: t[2]) & *t", "2 .");
        gives("table()[" + STALE + "]", "break 19 at 7");
    }

    public static void main(String[] args) {
        assigning();
        withSigns();
        keys();
        sections();
        elements();
        tables();
        end();
    }
}
