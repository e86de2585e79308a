import java.lang.management.ManagementFactory;

/** LANGUAGE.md, rule 12: what acts look at is not made anew each time; and what they keep is a copy. */
public final class RoomTest extends Check {
    private RoomTest() {
    }

    /** How many bytes the machine takes for a body that goes on for 40000 steps. */
    private static void room(String body, int most) {
        com.sun.management.ThreadMXBean meter = (com.sun.management.ThreadMXBean) ManagementFactory.getThreadMXBean();
        long me = Thread.currentThread().getId();
        GoalHouse x = new GoalHouse();
        due(body + " is read", read(x, "procedure main();" + body + ";end"), 0);
        long before = meter.getThreadAllocatedBytes(me);
        x.run(0, 1);
        for (int i = 0; i < 10; i++) {
            x.step(0, 4000);
        }
        long bytes = meter.getThreadAllocatedBytes(me) - before;
        due(body + " goes on", x.told(0, 0), 1);
        due(body + " did its steps", x.told(0, 1), 40000);
        due(body + " takes " + bytes + " bytes, more than " + most, bytes > most ? 1 : 0, 0);
    }

    private static void rooms() {
        int most = 10000000;
        String list = "local l,s,t;s:=t:=\"abcdef\";l:=list(500,";
        room(list + "1);repeat every 0(" + many("&pos,", 100) + "!l)", most);
        room(list + "1);repeat every 0(" + many("&pos,", 1000) + "!l)", most);
        room(list + "1);repeat every 0(" + many("&random,", 100) + many("&error,", 100) + "?!l)", most);
        room(list + "\"abcdef\");repeat every 0(" + many("s[1:2],", 100) + "s:=!l)", most);
        room(list + "\"abcdef\");repeat every writes(" + many("s[1:1],", 100) + "(s:=!l)[1:1])", most);
        room(list + "\"123456\");s:=\"12\";repeat every min(" + many("s[1:2],", 100) + "s:=!l)", most);
        room(list + "199);repeat every 2^!l", most);
        room(list + "\"199\");repeat every \"2\"^!l", most);
        room(list + "&all);repeat every find(~'d',!l)", most);
        room(list + "&all);repeat every upto('d',!l)", most);
        room(list + "'9');repeat every bal(\"a\",\"b\",\"c\",\"def\",\"1\",!l)", most);
        room(list + "'2');repeat every bal(\"d\",\"b\",\"c\",~'e',\"1\",!l)", most);
        room(list + "\"abc\");repeat every any(\"abc\",s[1:3],t[1:1]||\"1\",!l&\"3\")", most);
        room(list + "'abc');repeat every !l==\"abd\"", most);
        room(list + "'abc');repeat every type(!l)", most);
    }

    /** Values that a cell's look gives are kept as they were when the cell goes on. */
    private static void kept() {
        writes("s := \"abcd\"; l := [s[1:3], &pos, &random, s[2:4]]; s := \"wxyz\"; \"ab\" ? (tab(0) & every writes(!l, \" \"))", "ab 1 1 bc ");
        writes("s := \"abcd\"; t := table(s[1:2]); t[s[2:3]] := s[3:5]; s := \"--------\"; &subject := s[1:2]; write(t[0], key(t), !t, &subject)", "abcd-\n");
        writes("s := \"abcd\"; x := s[1:3]; y := .s[2:4]; z := (s[3:5] === \"cd\") & s[3:5]; s := \"wxyz\"; write(x, y, z)", "abbccd\n");
        writes("s := \"12345\"; x := +s[1:3]; y := 1 < s[2:4]; z := whole(s[4:6]); w := max(s[1:2], s[2:3]); write([s[1:2] + 0, s[2:3] + 0][1]); s := \"99999\"; write(x, y, z, w)", "1\n1223452\n");
        writes("s := \"13\"; every i := s[1:2] to s[2:3] do { s := \"99\"; writes(i) }; s := \"12\"; every i := seq(s[1:2], s[2:3]) \\ 3 do { s := \"00\"; writes(i) }", "123135");
        writes("s := \"abc\"; every i := !s[1:4] do { s := \"xyz\"; writes(i) }", "abc");
        writes("s := \"aXa\"; every i := upto(s[1:2], s[1:4]) do { s := \"XXX\"; writes(i) }; s := \"aXa\"; every i := find(s[1:2], s[1:4]) do { s := \"XXX\"; writes(i) }", "1313");
        writes("s := \"aXa\"; every i := upto(s[1:2], s[1:4]) do { s := \"------\"; [1, s[2:3], s[1:3], s[1:1]]; writes(i) }", "13");
        writes("s := \"aXa\"; every i := find(s[1:2], s[1:4]) do { s := \"------\"; [1, s[2:3], s[1:3], s[1:1]]; writes(i) }", "13");
        writes("s := \"a+(a)+a\"; every i := bal(s[2:3], s[3:4], s[5:6], s[1:8]) do { s := \"-----------\"; [1, s[1:2], s[2:3], s[3:4], s[1:9]]; writes(i) }", "26");
        writes("s := \"13\"; every i := s[1:2] to s[2:3] do { s := \"99\"; [s[1:1], s[2:2], s[1:2]]; writes(i) }", "123");
        writes("s := \"13\"; every i := seq(s[1:2], s[2:3]) \\ 3 do { s := \"99\"; [s[1:1], s[2:2], s[1:2], s[1:2]]; writes(i) }", "147");
        writes("s := \"abc\"; every i := !s[1:4] do { s := \"xyz\"; [s[1:2], s[2:3]]; writes(i) }", "abc");
        writes("s := \"abc\"; x := \"z\"; every (x <- s[1:3]) | write(x) do { s := \"12345\"; [s[3:4], s[2:4], s[1:2]]; write(x) }", "ab\nz\nz\n");
        writes("s := \"abc\"; every (s[1:3] <- \"Z\") | write(s) do { [s[1:2], s[1:1], s[1:2]]; writes(s, \" \") }", "Zc abc\nabc ");
        writes("s := \"a+(a)+a\"; every i := bal(s[2:3], s[3:4], s[5:6], s[1:8]) do { s := \"+++++++\"; writes(i) }", "26");
        writes("x := 5; every (x <- &pos) | write(x) do { &subject := \"abc\"; &pos := 2; write(x) }", "1\n5\n5\n");
        writes("s := \"abcd\"; every (s[1:3] <- \"XYZ\") | write(s) do write(s)", "XYZcd\nabcd\nabcd\n");
        writes("s := \"abcd\"; t := \"12\"; every (s[1:3] <-> t[1:2]) | write(s, t) do write(s, t)", "1cdab2\nabcd12\nabcd12\n");
        writes("&random := 7; x := &random; &random :=: y := 3; write(x, y, &random)", "773\n");
        writes("&error := 3; ([s := \"abc\", s[2:3]])(1); s[1:2] + 1; s := \"xyz\"; write(&error, image(&value))", "1\"a\"\n");
        writes("s := \"abc\"; g := group(); insert(g, s[1:2]); l := put([], s[2:3]); push(l, s[3:4]); insert(t := table(), s[1:2], s[2:3]); s := \"xyz\"; write(!g, l[1], l[2], key(t), !t)", "acbab\n");
        says("record r(f); procedure q(a, b[]); s := \"xyz\"; write(a, b[1]); return s[1:2]; end; global s; procedure main(); s := \"abc\"; x := r(s[1:2]); write(q(s[1:2], s[2:3]), x.f); end", "ab\nxa\n");
        says("procedure p(); local s; s := \"abc\"; suspend s[1:2] do s := \"xyz\"; suspend s[1:2]; end; procedure main(); every put(l := [], p()) & every put(k := [], p()); every writes(!k); write(); every x := p() do writes(x); end", "ax\nax");
        says("global s; procedure main(); s := \"abc\"; c := create s[1:2] | s[1:3]; x := @c; s := \"xyz\"; y := @c; s := \"123\"; write(x, y, \"ab\" ? s[1:2]); end", "axy1\n");
        writes("s := \"22\"; case s[1:2] of { (s := \"33\") & 9 : write(1); 2 : write(2); \"2\" : write(3) }", "3\n");
        gives("2 ^ (0 | 1 | 2 | 63 | 199)", "1 2 4 9223372036854775808 803469022129495137770981046170581301261101496891396417650688 .");
        gives("(-3) ^ (0 | 1 | 3 | 4) | 10 ^ 59 | (-10) ^ 59", "1 -3 -27 81 1" + many("0", 59) + " -1" + many("0", 59) + " .");
        gives("0 ^ (0 | 5) | 1 ^ (10 ^ 59) | (-1) ^ (10 ^ 59 + (0 | 1)) | 5 ^ -1 | 0 ^ -1", "1 0 1 1 -1 .");
        gives("2 ^ 200", "break 12 at 2");
        gives("10 ^ 60", "break 12 at 3");
        gives("(-10) ^ 60", "break 12 at 6");
        gives("1000000000000000000000000000000 ^ 2", "break 12 at 32");
        gives("999999999999999999999999999999 ^ 2", "999999999999999999999999999998000000000000000000000000000001 .");
        gives("2 ^ 1000000000000000000000", "break 12 at 2");
    }

    public static void main(String[] args) {
        rooms();
        kept();
        end();
    }
}
