/**
 * Programs that were drawn, each run to its end, cut in its middle and asked a goal. What is due was reckoned
 * by a second house, which was written from the document alone: the figures of told() and a number of all that
 * can be looked at.
 */
public final class DrawnTest extends Check {
    private DrawnTest() {
    }

    private static void row(StringBuilder o, int[] row, String between) {
        for (int i = 0; i < row.length; i++) {
            o.append(i > 0 ? between : "").append(row[i]);
        }
    }

    private static String told(GoalHouse x) {
        StringBuilder o = new StringBuilder();
        int[] told = new int[14];
        for (int i = 0; i < 14; i++) {
            told[i] = x.told(0, i);
        }
        row(o, told, " ");
        return o.toString();
    }

    private static String hex(String s) {
        StringBuilder o = new StringBuilder();
        for (int i = 0; i < s.length(); i++) {
            o.append(Character.forDigit(s.charAt(i) >> 4, 16)).append(Character.forDigit(s.charAt(i) & 15, 16));
        }
        return o.toString();
    }

    private static String image(GoalHouse x, int what, int k, int i) {
        return x.show(0, what, k, i) < 0 ? "-" : hex(shown(x));
    }

    /** All that can be looked at of run 0. */
    private static String all(GoalHouse x) {
        StringBuilder o = new StringBuilder(told(x)).append('\n').append(hex(out(x, 0))).append('\n');
        int[] row = new int[4];
        for (int i = 0; i < x.count(0, 3); i++) {
            for (int k = 0; k < 4; k++) {
                row[k] = x.counted(0, i, k);
            }
            o.append(i > 0 ? " " : "");
            row(o, row, "/");
        }
        o.append('\n');
        for (int i = 0; x.event(0, i, 0) > 0; i++) {
            for (int k = 0; k < 4; k++) {
                row[k] = x.event(0, i, k);
            }
            o.append(i > 0 ? " " : "");
            row(o, row, "/");
        }
        o.append('\n');
        for (int i = 0; i < x.count(0, 2); i++) {
            o.append(i > 0 ? " " : "").append(image(x, 0, i, 0));
        }
        o.append('\n').append(image(x, 1, 0, 0));
        for (int what = 4; what < 7; what++) {
            o.append(' ').append(image(x, what, 0, 0));
        }
        things(o, x);
        return o.toString();
    }

    private static void things(StringBuilder o, GoalHouse x) {
        for (int k = 1; x.thing(0, k, 0) >= 0; k++) {
            o.append('\n').append(x.thing(0, k, 0)).append(' ').append(x.thing(0, k, 1)).append(' ').append(x.thing(0, k, 2));
            for (int i = 1; i <= 8; i++) {
                o.append(' ').append(image(x, 2, k, i));
                if (x.show(0, 3, k, i) >= 0) {
                    o.append('=').append(hex(shown(x)));
                }
            }
        }
    }

    private static void looked(String what, GoalHouse x, int want) {
        String all = all(x);
        due(what + "\n" + all, all.hashCode(), want);
    }

    private static GoalHouse begun(String source, int seed, String input) {
        GoalHouse x = new GoalHouse();
        due("source\n" + source, read(x, source), 0);
        due("written", written(x, 0), source);
        feed(x, input);
        due("run", x.run(0, seed), 0);
        return x;
    }

    /** The run, done: told() and all; cut behind so many steps: all; what next() of its goal answers, and all then. */
    private static void drawn(String source, int seed, String input, String told, int done, int cut, int middle, String goal, String nexts, int last) {
        GoalHouse x = begun(source, seed, input);
        x.step(0, cut);
        looked(source + "\ncut behind " + cut + " steps", x, middle);
        x = begun(source, seed, input);
        x.step(0, 3900);
        due(source + "\ntold", told(x), told);
        looked(source, x, done);
        if (x.told(0, 0) != 0) {
            return;
        }
        feed(x, goal);
        x.goal(0);
        int limit = x.told(0, 1) + 300;
        for (int i = 0; i < nexts.length(); i++) {
            due(source + "\ngoal " + goal, x.next(0, limit - x.told(0, 1)), nexts.charAt(i) - '0');
        }
        looked(source + "\ngoal " + goal, x, last);
    }

    private static void first() {
        drawn("global L;\n"
            + "procedure main();\n"
            + "   &error := 1000;\n"
            + "   L := [\"abc\", []];\n"
            + "   h := table();\n"
            + "   write(image(/L[&pos]));\n"
            + "   every get(sort(h));\n"
            + "   reverse(L)[m to (&random % (-3)) by pos(&number)] /:= 1;\n"
            + "end\n",
            2259, "", "0 59 0 0 -2 5 6 0 1 0 0 999 2259 2", -1525994168, 29, 1497688726, "find(&subject)", "10", 1396782666);
        drawn("global G, T, C;\n"
            + "procedure f(n);\n"
            + "   move(100 - (-1)) | tab(G > m);\n"
            + "end\n"
            + "procedure main();\n"
            + "   &error := 1000;\n"
            + "   T := (u := \"hello 12\");\n"
            + "   n := 3;\n"
            + "   G := (m := 2);\n"
            + "   h := table();\n"
            + "   C := (create !(T || &letters));\n"
            + "   f(&subject ||:= (\"b (1\" <<= T), *insert(h, n, n), { \"((\" } ? (=&subject));\n"
            + "   every u <- find(&subject);\n"
            + "   every @C;\n"
            + "end\n",
            10986, "", "0 98 0 0 -2 2 11 68 1 8 0 999 10986 4", -1878076057, 49, -1950985719, "&null", "10", -54259615);
        drawn("global T, L, C;\n"
            + "record rec(x, y);\n"
            + "procedure q(w, l[]);\n"
            + "   u :=: (!(T ? n));\n"
            + "end\n"
            + "procedure main();\n"
            + "   &error := 20;\n"
            + "   T := (u := \"hello 12\");\n"
            + "   n := 3;\n"
            + "   L := [\"abc\", []];\n"
            + "   k := group(l);\n"
            + "   T === list(n);\n"
            + "   (?[(), C, ()]) <-> table(&value)[q(k, &error, rec)];\n"
            + "   every (~&all) & (@L[&error +: 4]);\n"
            + "end\n",
            16081, "x\n\n12\n", "0 81 0 0 -2 7 18 0 1 0 0 19 971283766 4", -1056558006, 40, 983089953, "@(create rec)", "10", -1134241672);
        drawn("record pair(y, z, x);\n"
            + "procedure main();\n"
            + "   &error := 20;\n"
            + "   c := (create move(?4));\n"
            + "   (!copy(pair(&null, &null))) ++:= ((('a' ++ '123') ** '13') ** (('ab' -- &upper) -- (u | '3')));\n"
            + "end\n",
            6990, "", "0 104 0 0 -2 3 10 0 1 0 0 14 6990 2", -1755704452, 52, 75983751, "c", "10", 1660507318);
        drawn("global G, H;\n"
            + "record rec(x, y);\n"
            + "procedure q(w, l[]);\n"
            + "   every G <- (\"\" || '3a');\n"
            + "   every r;\n"
            + "end\n"
            + "procedure f(n);\n"
            + "   H := h;\n"
            + "end\n"
            + "procedure main();\n"
            + "   &error := 5;\n"
            + "   t := \"ab(c)1a2b\";\n"
            + "   h := table();\n"
            + "   r := rec(1, \"q\");\n"
            + "   every move(whole(match(&subject)));\n"
            + "   &pos +:= (*(main & l));\n"
            + "   every f ! (l | l);\n"
            + "end\n",
            1869, "", "0 51 0 0 -2 2 6 0 1 0 0 2 1869 2", 727860477, 25, 1802676787, "q(if &null then (), &error >= (-1), s <- t)", "0", -1277475733);
        drawn("global G, C;\n"
            + "procedure p(v, n);\n"
            + "   write(image(pull('1')));\n"
            + "   every s;\n"
            + "end\n"
            + "procedure main();\n"
            + "   &error := 1000;\n"
            + "   n := 3;\n"
            + "   G := (m := 2);\n"
            + "   l := [1, \"xy\", 33];\n"
            + "   h := table();\n"
            + "   c := (create type()[find(&subject) +: C]);\n"
            + "   (write(u, &null) ? tab(n)) ? q(if () then (), 3 / G);\n"
            + "   case &all -- (&digits \\ &number) of { default : @&letters; @c : ?delete(h, n); get(l) : ()[p][number(())] };\n"
            + "   every ^c;\n"
            + "end\n"
            + "procedure q(w, l[]);\n"
            + "   ~&all;\n"
            + "end\n",
            3924, "one\ntwo", "0 70 1 0 -2 4 21 0 1 0 0 997 3924 2", 1516484072, 35, 68995558, "p(G -:= 0, repeat { l; if () then (break 7) }, member(h))", "0", -1841796785);
        drawn("record rec(x, y);\n"
            + "procedure main();\n"
            + "   &error := 1000;\n"
            + "   t := \"ab(c)1a2b\";\n"
            + "   h := table(\"dd\");\n"
            + "   proc(writes(map('ab'), copy(t)));\n"
            + "   key(table(&lower));\n"
            + "end\n",
            9203, "one\ntwo", "0 39 11 0 -2 2 2 2 1 0 0 1000 9203 2", 1695629791, 19, -711239351, "insert(h, rec, &fail)", "0", -2064961668);
        drawn("global G, C;\n"
            + "procedure main();\n"
            + "   &error := 1000;\n"
            + "   n := 3;\n"
            + "   G := (m := 2);\n"
            + "   k := group(l);\n"
            + "   c := (create &random);\n"
            + "   C := (create \\h);\n"
            + "   every 1 to 11 do list(500);\n"
            + "   list(419);\n"
            + "   ^C;\n"
            + "   f(&pos ^:= (1 > 0), (p | n) * (5 ^ G), C);\n"
            + "   p({ w; &all }, until \"p\"() do @c, m);\n"
            + "end\n"
            + "procedure p(v, n);\n"
            + "   [];\n"
            + "end\n"
            + "procedure f(n);\n"
            + "   every !k;\n"
            + "   every { .G };\n"
            + "end\n",
            11559, "", "1 3900 0 0 -2 41 5999 0 1 0 1 399 11559 53", 1934698282, 1950, -1735964533, "", "", 1934698282);
        drawn("global L;\n"
            + "record rec(x, y);\n"
            + "procedure main();\n"
            + "   &error := 5;\n"
            + "   t := \"ab(c)1a2b\";\n"
            + "   l := [1, \"xy\", 33];\n"
            + "   L := [\"abc\", []];\n"
            + "   every \"rec\"(get(L ||| L), rec(&subject ? L, pull(l)));\n"
            + "   every tab(pos(&pos <-> t));\n"
            + "end\n",
            4287, "one\ntwo", "0 60 0 0 -2 6 15 0 1 0 0 4 4287 2", -1915595993, 30, -1524732926, "&subject := u", "0", 939908800);
        drawn("global G, T, L;\n"
            + "procedure main();\n"
            + "   &error := 5;\n"
            + "   t := \"ab(c)1a2b\";\n"
            + "   T := (u := \"hello 12\");\n"
            + "   G := (m := 2);\n"
            + "   L := [\"abc\", []];\n"
            + "   h := table(\"dd\");\n"
            + "   h :=: u[digits(G) = (+G) : bal('', ((L[2][4 +: 4] <-> u) & ((t := \"longer text\") & &fail)) | &digits, u[4 : 1 to 2])];\n"
            + "   every T[2 -: 2];\n"
            + "end\n",
            6917, "", "0 88 0 0 -2 3 6 0 1 0 0 5 6917 2", 835429616, 44, -1351205231, "\\G", "10", -1136431301);
    }

    private static void second() {
        drawn("global G, V, L, H;\n"
            + "record rec(x, y);\n"
            + "procedure q(w, l[]);\n"
            + "   \"write\"(p(k, abs(&error), 2(main, write, V)), !(create n));\n"
            + "   (if V := &subject then (suspend main)) | (every l do &null);\n"
            + "end\n"
            + "procedure main();\n"
            + "   &error := 1000;\n"
            + "   t := \"ab(c)1a2b\";\n"
            + "   n := 3;\n"
            + "   G := (m := 2);\n"
            + "   l := [1, \"xy\", 33];\n"
            + "   L := [\"abc\", []];\n"
            + "   H := insert(table(), 1, \"one\");\n"
            + "   k := group(l);\n"
            + "   r := rec(1, \"q\");\n"
            + "   r.x *:= (*H);\n"
            + "   every max ! q(V);\n"
            + "   every 3(V <-> G);\n"
            + "end\n"
            + "procedure p(v, n);\n"
            + "   2(get(L), q((), &pos, ()), p(l));\n"
            + "end\n",
            3224, "", "0 249 0 0 -2 9 48 0 1 0 0 999 3224 24", 687748056, 124, -511320815, "n :=: t", "10", 425364711);
        drawn("global G;\n"
            + "procedure main();\n"
            + "   G := (m := 2);\n"
            + "   c := (create (create @c));\n"
            + "   every any(repl(\"(\" ? G, (-1) <= &pos));\n"
            + "end\n",
            18142, "", "0 30 0 0 -2 1 4 1 1 0 0 0 18142 2", 850299997, 15, 323018178, "@c", "2", -1753381425);
        drawn("global G, T, L, C;\n"
            + "procedure main();\n"
            + "   &error := 1000;\n"
            + "   t := \"ab(c)1a2b\";\n"
            + "   T := (u := \"hello 12\");\n"
            + "   n := 3;\n"
            + "   G := (m := 2);\n"
            + "   L := [\"abc\", []];\n"
            + "   C := (create t[&number] ||:= (&subject || L));\n"
            + "   write(image(((@L) \\ ((-2) ~= G)) | (char(-2) ? (/m))));\n"
            + "   every (center(&subject, 1) ? n) || (t || left(&subject));\n"
            + "   every T[&pos] \\ (return &upper);\n"
            + "end\n",
            20045, "", "0 83 0 0 -2 3 10 23 1 0 0 998 20045 2", 1820806571, 41, -477600395, "C", "10", 231611723);
        drawn("global G;\n"
            + "record rec(x, y);\n"
            + "procedure main();\n"
            + "   &error := 1000;\n"
            + "   G := (m := 2);\n"
            + "   c := (create (-1) to (&subject ? &number) by ((-3) + (-1)));\n"
            + "   every 1 to 199 do repl(\"a\", 500);\n"
            + "   repl(\"a\", 400);\n"
            + "   @c;\n"
            + "   every G --:= (('3' ++ '23b') -- set(&subject));\n"
            + "end\n",
            4997, "x\n\n12\n", "0 1059 0 0 -2 1 4 99900 1 0 0 999 4997 2", 601515136, 529, 102414308, "rec(&fail, rec)", "0", 121153223);
        drawn("global C;\n"
            + "procedure p(v, n);\n"
            + "   |(&subject +:= u);\n"
            + "   C <- (^tab(7));\n"
            + "end\n"
            + "procedure main();\n"
            + "   &error := 1000;\n"
            + "   n := 3;\n"
            + "   C := (create &subject);\n"
            + "   every &pos <- (p & 0);\n"
            + "   every tab(min(&subject := (-2), max(n, &pos)));\n"
            + "end\n",
            23131, "one\ntwo", "0 45 0 0 -2 1 2 2 1 2 0 1000 23131 2", -1498415292, 22, -344544787, "key()", "0", 1882738490);
        drawn("global T;\n"
            + "procedure main();\n"
            + "   &error := 5;\n"
            + "   T := (u := \"hello 12\");\n"
            + "   l := [1, \"xy\", 33];\n"
            + "   write(image(proc('2')));\n"
            + "   not read();\n"
            + "   every m *:= match(T ? (), l, gcd(5, &error),);\n"
            + "end\n",
            616, "x\n\n12\n", "0 51 0 0 -2 1 6 1 1 0 0 4 616 2", -1866094504, 25, -250711332, "T /:= m", "0", 1839032310);
        drawn("procedure main();\n"
            + "   &error := 20;\n"
            + "   t := \"ab(c)1a2b\";\n"
            + "   l := [1, \"xy\", 33];\n"
            + "   k := group(l);\n"
            + "   proc(move(0) & (\"3b\" ? t));\n"
            + "   { write(); number((\"(3121\" >>= k) ? (@c)); l[&pos][0 >= (-3)] -:= (pos(4) || (&upper ** '')) };\n"
            + "   ?'1c';\n"
            + "end\n",
            12201, "", "0 64 1 0 -2 2 10 0 1 0 0 19 1414527278 2", 578248665, 32, -475665368, "l ||:= seq(-2, &pos)", "2", -1942444644);
        drawn("global G, T, V, L, H;\n"
            + "procedure main();\n"
            + "   &error := 1000;\n"
            + "   T := (u := \"hello 12\");\n"
            + "   n := 3;\n"
            + "   G := (m := 2);\n"
            + "   L := [\"abc\", []];\n"
            + "   h := table(\"dd\");\n"
            + "   H := insert(table(), 1, \"one\");\n"
            + "   c := (create (() === V) ~=== (f ! L));\n"
            + "   write(t[G : H] := (T <-> h), min(&random | &error, .&pos, 4 > H), !(!t));\n"
            + "   2(@(create n), @(^c));\n"
            + "   max ! [member(L, ())];\n"
            + "end\n"
            + "procedure f(n);\n"
            + "   suspend;\n"
            + "end\n",
            5728, "", "0 86 0 0 -2 7 28 0 1 0 0 998 5728 6", 632341496, 43, 613502024, "f(&null, G, w)", "10", -406961602);
        drawn("global H;\n"
            + "procedure main();\n"
            + "   &error := 1000;\n"
            + "   t := \"ab(c)1a2b\";\n"
            + "   H := insert(table(), 1, \"one\");\n"
            + "   every -1;\n"
            + "   every key(delete(insert(H), () | &number));\n"
            + "end\n",
            19749, "", "0 43 0 0 -2 1 3 0 1 0 0 1000 19749 2", -1050256705, 21, 961941548, "!(&subject == t)", "0", -1833216575);
        drawn("global T, H, C;\n"
            + "procedure main();\n"
            + "   &error := 5;\n"
            + "   C := (create table(T <- u));\n"
            + "   every write(&subject) ~== (.'23a') do ?H;\n"
            + "   match(trim(&subject, &number) ? tab(m));\n"
            + "end\n",
            22696, "", "0 39 1 0 -2 1 4 3 1 0 0 3 22696 2", 87825417, 19, -1322151094, "@C", "10", -1214958080);
    }

    private static void third() {
        drawn("global H;\n"
            + "procedure main();\n"
            + "   &error := 20;\n"
            + "   n := 3;\n"
            + "   l := [1, \"xy\", 33];\n"
            + "   h := table(\"dd\");\n"
            + "   H := insert(table(), 1, \"one\");\n"
            + "   k := group(l);\n"
            + "   write(H[&null] <-> k, upto(), pull(list(-3, l)));\n"
            + "   every (create m);\n"
            + "   n;\n"
            + "end\n",
            3763, "one\ntwo", "0 50 0 0 -2 5 18 0 1 0 0 19 3763 2", -1659472393, 25, -1405582764, "copy(h **:= '12b')", "0", -2053975954);
        drawn("global T;\n"
            + "procedure main();\n"
            + "   &error := 20;\n"
            + "   T := (u := \"hello 12\");\n"
            + "   n := 3;\n"
            + "   |(&pos +:= pos(many(&all, T, m)));\n"
            + "   &pos +:= move(n)[&number];\n"
            + "end\n",
            3847, "", "0 37 0 0 -2 0 3 0 1 0 0 20 3847 2", -1615112879, 18, 1430134685, "'b'.x", "0", 782207054);
        drawn("global C;\n"
            + "procedure p(v, n);\n"
            + "   write(image(@(create &subject)));\n"
            + "end\n"
            + "procedure main();\n"
            + "   &error := 1000;\n"
            + "   l := [1, \"xy\", 33];\n"
            + "   k := group(l);\n"
            + "   C := (create seq(@v, group(h)));\n"
            + "   @&subject[w : l];\n"
            + "   k;\n"
            + "   right(text(-1), -m, @C)[^c] |||:= (@c);\n"
            + "end\n",
            20095, "x\n\n12\n", "0 42 0 0 -2 3 20 2 1 0 0 998 20095 2", 1087172830, 21, 1980560715, "p(v,, l, ())", "0", 1458325085);
        drawn("global V, L, H;\n"
            + "procedure main();\n"
            + "   &error := 1000;\n"
            + "   L := [\"abc\", []];\n"
            + "   h := table(\"dd\");\n"
            + "   H := insert(table(), 1, \"one\");\n"
            + "   k := group(l);\n"
            + "   every get(put(push(L, &null), s := ()));\n"
            + "   every [&number, V];\n"
            + "   h | (!H);\n"
            + "end\n",
            14750, "", "0 58 0 0 -2 6 11 0 1 0 0 1000 14750 2", 1960905075, 29, -1195438374, "k ** k", "0", -668917448);
        drawn("global T, V;\n"
            + "procedure main();\n"
            + "   &error := 1000;\n"
            + "   T := (u := \"hello 12\");\n"
            + "   n := 3;\n"
            + "   h := table();\n"
            + "   /h[V];\n"
            + "   5 / m;\n"
            + "   T[&error < &error] +:= ((2 to &error) ^ (n | n));\n"
            + "end\n",
            23678, "x\n\n12\n", "0 33 0 0 -2 1 4 0 1 0 0 999 23678 2", -995393074, 16, -967586616, "&error ||:= &pos", "0", -120551154);
        drawn("global T;\n"
            + "procedure main();\n"
            + "   &error := 1000;\n"
            + "   t := \"ab(c)1a2b\";\n"
            + "   T := (u := \"hello 12\");\n"
            + "   l := [1, \"xy\", 33];\n"
            + "   h := table();\n"
            + "   &random /:= seq();\n"
            + "   every (case ((t[4 : 3] <-> t) | l[2][1 to 2 : 3]) \\ 2 of { h[\"k\"][3 : 1][1 +: 1 to 3] : main; (u[0] | (T <- \"longer text\")) \\ 1 : (); default : &number });\n"
            + "end\n",
            808, "", "0 80 0 0 -2 2 7 17 1 0 0 998 808 2", -1461269510, 40, 1914967407, "t[1 to 2 : 2]", "0", -837605319);
        drawn("global C;\n"
            + "procedure main();\n"
            + "   &error := 1000;\n"
            + "   t := \"ab(c)1a2b\";\n"
            + "   l := [1, \"xy\", 33];\n"
            + "   C := (create !&upper);\n"
            + "   t[3];\n"
            + "   while ^C;\n"
            + "   @l();\n"
            + "end\n",
            21258, "", "0 2022 0 0 -2 1000 2003 0 1 0 0 998 21258 2", 1990244533, 1011, 1629040661, "C := (create &number)", "0", -1593294013);
        drawn("global T, K;\n"
            + "procedure main();\n"
            + "   &error := 5;\n"
            + "   t := \"ab(c)1a2b\";\n"
            + "   T := (u := \"hello 12\");\n"
            + "   K := group();\n"
            + "   any(&subject :=: (-3));\n"
            + "   every proc((t ? T) << (T ? n));\n"
            + "   member(K ** K, &null & main, v === &fail);\n"
            + "end\n",
            11018, "one\ntwo", "0 61 0 0 -2 2 4 0 1 0 0 3 11018 2", 1972715736, 30, -1533774380, "&pos -:= (\"\" >>= &subject)", "0", 958394785);
        drawn("global T, K, C;\n"
            + "procedure main();\n"
            + "   &error := 1000;\n"
            + "   T := (u := \"hello 12\");\n"
            + "   k := group(l);\n"
            + "   K := group();\n"
            + "   c := (create 0 to (l <= (-3)));\n"
            + "   C := (create u[1 : 7] := (~'1ac'));\n"
            + "   @c;\n"
            + "   every u := image(list());\n"
            + "   every ((k := K) ~=== (@C)) | T[&pos];\n"
            + "end\n",
            7814, "", "0 78 0 0 -2 5 12 264 1 0 0 999 7814 2", -548039242, 39, -1792120873, "&pos :=: w", "0", -1503336561);
        drawn("global G, T, K, C;\n"
            + "procedure main();\n"
            + "   &error := 5;\n"
            + "   T := (u := \"hello 12\");\n"
            + "   G := (m := 2);\n"
            + "   K := group();\n"
            + "   C := (create &random to ord(7));\n"
            + "   every [K, (), main][G / &error] <- T;\n"
            + "end\n",
            4142, "", "0 37 0 0 -2 3 7 0 1 0 0 5 4142 2", 1219301393, 18, -1624856100, "member(K, @C)", "0", 1117653576);
    }

    private static void fourth() {
        drawn("global V;\n"
            + "procedure main();\n"
            + "   &error := 20;\n"
            + "   V --:= (&pos ? &upper);\n"
            + "   { @(create &error); get(&subject <- &subject) };\n"
            + "end\n",
            13537, "", "0 25 0 0 -2 1 0 1 1 0 0 18 13537 2", -589617198, 12, -680659669, "pos(&pos := &pos)", "10", 288816216);
        drawn("global T, V, H, K;\n"
            + "record rec(x, y);\n"
            + "procedure main();\n"
            + "   &error := 5;\n"
            + "   T := (u := \"hello 12\");\n"
            + "   n := 3;\n"
            + "   H := insert(table(), 1, \"one\");\n"
            + "   K := group();\n"
            + "   write(image((|H)[main(w, &number)] <-> T));\n"
            + "end\n",
            21040, "x\n\n12\n", "2 2150 0 16 185 120 240 0 1 0 60 0 21040 60", -476536952, 1075, 191307224, "", "", -476536952);
        drawn("global T, C;\n"
            + "procedure main();\n"
            + "   &error := 1000;\n"
            + "   h := table(\"dd\");\n"
            + "   C := (create @q(t, &pos, &null));\n"
            + "   @C;\n"
            + "end\n"
            + "procedure f(n);\n"
            + "   (T := &fail) \\ ((-1) ~= m);\n"
            + "end\n"
            + "procedure q(w, l[]);\n"
            + "   initial @C;\n"
            + "   every f((), m, &number);\n"
            + "   every @C;\n"
            + "end\n",
            3791, "x\n\n12\n", "0 49 0 0 -2 3 11 0 1 0 0 997 3791 6", 1080337414, 24, -439595888, "member(h, (), ())", "0", 1422826630);
        drawn("global G, T, H;\n"
            + "record rec(x, y);\n"
            + "procedure q(w, l[]);\n"
            + "   initial @c;\n"
            + "   every @c;\n"
            + "   write(image({ h[1][2 : 1] <-> T; G :=: r }));\n"
            + "end\n"
            + "procedure main();\n"
            + "   &error := 1000;\n"
            + "   t := \"ab(c)1a2b\";\n"
            + "   H := insert(table(), 1, \"one\");\n"
            + "   r := rec(1, \"q\");\n"
            + "   ((H[1][3] <- v) & ((u := \"\") & &fail)) | &null;\n"
            + "   every t[1 to 3 +: 2] :=: ((u <- \"xyz\") & main);\n"
            + "end\n",
            14104, "", "0 88 0 0 -2 2 7 0 1 0 0 996 14104 2", -1081287365, 44, -1839657272, "r %:= 0", "0", 1743604051);
        drawn("global T, H;\n"
            + "record rec(x, y);\n"
            + "procedure q(w, l[]);\n"
            + "   every p(write, 7,);\n"
            + "   q ! l;\n"
            + "end\n"
            + "procedure f(n);\n"
            + "   every r;\n"
            + "end\n"
            + "procedure main();\n"
            + "   &error := 5;\n"
            + "   n := 3;\n"
            + "   l := [1, \"xy\", 33];\n"
            + "   h := table(\"dd\");\n"
            + "   r := rec(1, \"q\");\n"
            + "   c := (create p(T <- \"cc (c\", number(\"12ab \"), key(H)));\n"
            + "   (@c) === (suspend &number do ());\n"
            + "   write(image(@(^(every -2 do ()))));\n"
            + "   write(image(f(s := 2, *h, q(rec, n, &null))));\n"
            + "end\n"
            + "procedure p(v, n);\n"
            + "   every ?(suspend &error);\n"
            + "end\n",
            19754, "", "0 1201 0 0 -2 63 254 0 1 0 0 3 19754 352", 1259018993, 600, -2078960011, "(repeat { (); if rec then (break) }) \\ q(l, -3,)", "3", -1620427124);
        drawn("global G;\n"
            + "record rec(x, y);\n"
            + "procedure main();\n"
            + "   &error := 1000;\n"
            + "   G := (m := 2);\n"
            + "   l := [1, \"xy\", 33];\n"
            + "   r := rec(1, \"q\");\n"
            + "   c := (create upto());\n"
            + "   f(group(l), -1, m +:= ((-2) < 2));\n"
            + "   /G;\n"
            + "   write(image(r));\n"
            + "end\n"
            + "procedure f(n);\n"
            + "   { f(&value, &random,) };\n"
            + "end\n"
            + "procedure q(w, l[]);\n"
            + "   { write((), n, k); G <- v };\n"
            + "end\n",
            11834, "", "0 528 9 0 -2 4 75 8 1 0 0 999 11834 120", 1593468513, 264, -412556800, "?c", "0", -836302736);
        drawn("global T;\n"
            + "record rec(x, y);\n"
            + "procedure main();\n"
            + "   &error := 1000;\n"
            + "   T := (u := \"hello 12\");\n"
            + "   r := rec(1, \"q\");\n"
            + "   every u[2 -: 1] >> ((T := \"\") & &null);\n"
            + "   T[1];\n"
            + "   v :=: r.y[1 to 2 : 3];\n"
            + "end\n"
            + "procedure q(w, l[]);\n"
            + "   h[1][4 +: 1] ++:= t;\n"
            + "end\n",
            8051, "", "0 58 0 0 -2 1 5 0 1 0 0 999 8051 2", 44804405, 29, -174316577, "/w", "10", -526001748);
        drawn("global G, T;\n"
            + "procedure f(n);\n"
            + "   initial .c;\n"
            + "   T;\n"
            + "end\n"
            + "procedure main();\n"
            + "   &error := 20;\n"
            + "   t := \"ab(c)1a2b\";\n"
            + "   T := (u := \"hello 12\");\n"
            + "   G := (m := 2);\n"
            + "   &pos ||:= (char(right(T, &pos)) <<= repl(t || &subject, &fail & n));\n"
            + "   every (T || &all)[&number < (-1)] ? G;\n"
            + "end\n",
            5721, "", "0 59 0 0 -2 0 4 275 1 0 0 19 5721 2", -152235178, 29, 1411160332, "f()", "0", -69825837);
        drawn("global G, H;\n"
            + "record rec(x, y);\n"
            + "procedure main();\n"
            + "   &error := 5;\n"
            + "   t := \"ab(c)1a2b\";\n"
            + "   G := (m := 2);\n"
            + "   H := insert(table(), 1, \"one\");\n"
            + "   r := rec(1, \"q\");\n"
            + "   q(member(insert(H, (), ()), not &fail), &subject / &pos, &pos :=: G);\n"
            + "   write(image((&subject -:= (r || '')) ? (&subject := m)));\n"
            + "end\n"
            + "procedure q(w, l[]);\n"
            + "   v | ();\n"
            + "   t <-> &random;\n"
            + "end\n",
            22988, "x\n\n12\n", "0 65 0 0 -2 2 7 0 1 0 0 3 22988 2", 1490759250, 32, 2141224636, "q(move(-3, main), { &pos }, &pos := &pos)", "0", 185245137);
        drawn("global V;\n"
            + "procedure main();\n"
            + "   &error := 20;\n"
            + "   n := 3;\n"
            + "   c := (create v := (^c));\n"
            + "   every V := (create (create n)) do @c;\n"
            + "end\n",
            12428, "x\n\n12\n", "0 25 0 0 -2 2 9 0 1 0 0 19 12428 2", -1351193142, 12, -1762566715, "proc(read())", "0", 1989476613);
    }

    private static void fifth() {
        drawn("global H;\n"
            + "procedure main();\n"
            + "   &error := 20;\n"
            + "   H := insert(table(), 1, \"one\");\n"
            + "   (=t) === [&null & main];\n"
            + "   every H[t] :=: &random;\n"
            + "end\n",
            21742, "one\ntwo", "0 25 0 0 -2 1 3 0 1 0 0 18 21742 2", -1498756348, 12, 911441516, "many(&digits)", "0", 1082053162);
        drawn("global T, C;\n"
            + "procedure main();\n"
            + "   &error := 5;\n"
            + "   T := (u := \"hello 12\");\n"
            + "   C := (create ^(*()));\n"
            + "   T();\n"
            + "   write(image(!(C \\ (-1))));\n"
            + "end\n",
            13492, "", "0 26 0 0 -2 1 2 0 1 0 0 3 13492 2", -1892200127, 13, -502770780, "&lower ++ &all", "10", -221997936);
        drawn("procedure p(v, n);\n"
            + "   every (return (suspend main));\n"
            + "   h <- &null;\n"
            + "end\n"
            + "procedure main();\n"
            + "   &error := 20;\n"
            + "   l := [1, \"xy\", 33];\n"
            + "   k := group(l);\n"
            + "   write(image(suspend (every \"ab( \") do (repeat { &value; if p then (break) })));\n"
            + "   k -- (k -- k);\n"
            + "   every (return max ! l);\n"
            + "end\n",
            12592, "", "0 36 0 0 -2 4 11 0 1 0 0 19 12592 2", -1611023672, 18, -1364135963, "&random ++:= (|'c')", "2", 2048254664);
        drawn("global C;\n"
            + "procedure main();\n"
            + "   &error := 5;\n"
            + "   t := \"ab(c)1a2b\";\n"
            + "   l := [1, \"xy\", 33];\n"
            + "   C := (create r);\n"
            + "   (?l) :=: t[&pos];\n"
            + "   { l };\n"
            + "   suspend C;\n"
            + "end\n",
            8118, "x\n\n12\n", "0 25 0 0 -2 2 9 9 1 0 0 5 1182475447 2", 112958738, 12, 2106354699, "t(&value, ())", "0", -1915516163);
        drawn("global L;\n"
            + "procedure main();\n"
            + "   &error := 1000;\n"
            + "   t := \"ab(c)1a2b\";\n"
            + "   L := [\"abc\", []];\n"
            + "   proc(\"()c(\" << &pos);\n"
            + "   every *(@t);\n"
            + "   write(image(get(L ||| l)));\n"
            + "end\n",
            2371, "", "0 39 0 0 -2 2 4 1 1 0 0 998 2371 2", -251740557, 19, -162587245, "!\"write\"(&number, &fail)", "0", 73507471);
        drawn("global L;\n"
            + "procedure main();\n"
            + "   &error := 1000;\n"
            + "   L := [\"abc\", []];\n"
            + "   h := table();\n"
            + "   c := (create (create ^c));\n"
            + "   &random := (h[()] :=: (?L));\n"
            + "   ?&subject;\n"
            + "end\n",
            8813, "one\ntwo", "0 33 0 0 -2 4 7 0 1 0 0 999 1473908386 2", 795209801, 16, 1160353771, "c <-> n", "10", -726065805);
        drawn("record rec(x, y);\n"
            + "procedure p(v, n);\n"
            + "   h <- h;\n"
            + "   q((), -1, rec);\n"
            + "end\n"
            + "procedure main();\n"
            + "   &error := 5;\n"
            + "   h := table(\"dd\");\n"
            + "   k := group(l);\n"
            + "   (every p((), &pos, ())) & { w === k; () & () };\n"
            + "   every proc(suspend &subject);\n"
            + "end\n"
            + "procedure q(w, l[]);\n"
            + "   (if rec then rec else rec) \\ (fail);\n"
            + "   suspend proc(u);\n"
            + "end\n",
            13594, "", "0 45 0 0 -2 3 12 0 1 0 0 5 13594 6", 83817975, 22, 316659494, "&subject ++:= '3b'", "10", 2053456755);
        drawn("global L, K;\n"
            + "procedure main();\n"
            + "   &error := 1000;\n"
            + "   n := 3;\n"
            + "   l := [1, \"xy\", 33];\n"
            + "   L := [\"abc\", []];\n"
            + "   K := group();\n"
            + "   l <- put(L, n, ());\n"
            + "   &pos **:= ('' | '1');\n"
            + "   every ?l;\n"
            + "end\n",
            13733, "x\n\n12\n", "0 40 0 0 -2 4 9 0 1 0 0 999 1930251642 2", 1459453290, 20, -1787353335, "K -- K", "10", -731066056);
        drawn("global G, T, V, K, C;\n"
            + "procedure q(w, l[]);\n"
            + "   initial t <- T;\n"
            + "   u := (l || G);\n"
            + "   write(image(match(u)));\n"
            + "end\n"
            + "procedure main();\n"
            + "   &error := 5;\n"
            + "   t := \"ab(c)1a2b\";\n"
            + "   T := (u := \"hello 12\");\n"
            + "   G := (m := 2);\n"
            + "   l := [1, \"xy\", 33];\n"
            + "   K := group();\n"
            + "   C := (create { &value; u }[find(\"b)\", t)]);\n"
            + "   move(3 % &number) ? proc({ K });\n"
            + "   V +:= number(C);\n"
            + "end\n",
            10505, "", "0 47 0 0 -2 3 11 0 1 0 0 3 10505 2", 739014936, 23, -479259279, "q()", "0", 2104751581);
        drawn("global K;\n"
            + "procedure f(n);\n"
            + "   (every K do l) | (() === ());\n"
            + "   every (suspend c *:= t);\n"
            + "end\n"
            + "procedure main();\n"
            + "   &error := 1000;\n"
            + "   n := 3;\n"
            + "   l := [1, \"xy\", 33];\n"
            + "   K := group();\n"
            + "   write(suspend @w(()));\n"
            + "   v;\n"
            + "end\n",
            8683, "", "0 27 0 0 -2 2 7 0 1 0 0 999 8683 2", -1419976430, 13, 2000607584, "?f(l, 4, n)", "0", -1694496626);
    }

    private static void sixth() {
        drawn("global G;\n"
            + "record rec(x, y);\n"
            + "procedure main();\n"
            + "   &error := 5;\n"
            + "   n := 3;\n"
            + "   G := (m := 2);\n"
            + "   l := [1, \"xy\", 33];\n"
            + "   c := (create m * &number);\n"
            + "   &pos <- gcd(.number(&null), (&value & G) + (&pos ^ l), find(type()));\n"
            + "end\n",
            19591, "one\ntwo", "0 32 0 0 -2 2 11 0 1 0 0 5 19591 2", 327758236, 16, 1791420569, "m(n & rec, @c)", "0", 991991907);
        drawn("global G;\n"
            + "record rec(x, y);\n"
            + "procedure main();\n"
            + "   &error := 20;\n"
            + "   t := \"ab(c)1a2b\";\n"
            + "   G := (m := 2);\n"
            + "   every m *:= seq(&pos, m);\n"
            + "   proc(move(-3));\n"
            + "end\n"
            + "procedure f(n);\n"
            + "   &pos <- \"cb\"[&error +: 100];\n"
            + "   every \"rec\"(write,);\n"
            + "end\n",
            18129, "x\n\n12\n", "2 118 0 12 113 0 2 0 1 0 1 0 18129 1", -1630078651, 59, -2016856551, "", "", -1630078651);
        drawn("global C;\n"
            + "record rec(x, y);\n"
            + "procedure q(w, l[]);\n"
            + "   every k;\n"
            + "end\n"
            + "procedure main();\n"
            + "   r := rec(1, \"q\");\n"
            + "   c := (create (every n(&fail, v) do @C));\n"
            + "   C := (create (while (every ()) do ?u));\n"
            + "   write(, m, @C);\n"
            + "   1(@(^c), r,);\n"
            + "end\n",
            5408, "", "0 37 0 0 -2 4 26 0 1 0 0 0 5408 2", 1383210979, 18, -352868893, "(!r) \\ many()", "2", 167566691);
        drawn("global T, V, H;\n"
            + "procedure main();\n"
            + "   &error := 1000;\n"
            + "   t := \"ab(c)1a2b\";\n"
            + "   T := (u := \"hello 12\");\n"
            + "   H := insert(table(), 1, \"one\");\n"
            + "   @(create ((t[4 -: 1 to 3] <-> t) | H[\"k\"][4 -: 3]) \\ 2);\n"
            + "   (t :=: T[4 : 4]).x -:= seq(m ^ whole(\" 2abbb\"), 100);\n"
            + "end\n",
            3950, "", "0 56 0 0 -2 2 7 50 1 0 0 997 3950 2", -1356780058, 28, 1275034943, "V((), w)", "0", 224035678);
        drawn("global T, K;\n"
            + "procedure main();\n"
            + "   &error := 1000;\n"
            + "   n := 3;\n"
            + "   K := group();\n"
            + "   c := (create (\"cb1\" ? T) ? tab(n));\n"
            + "   every &subject <-> 0;\n"
            + "   every &subject \\ (p & n);\n"
            + "   every K(&pos, find(c))(1 + K);\n"
            + "end\n"
            + "procedure p(v, n);\n"
            + "   every &pos;\n"
            + "   every &subject ? ();\n"
            + "end\n",
            776, "one\ntwo", "0 42 0 0 -2 2 4 0 1 0 0 998 776 2", 864265012, 21, -1063763944, "move(-1)", "0", -1979805829);
        drawn("global C;\n"
            + "record rec(x, y);\n"
            + "procedure q(w, l[]);\n"
            + "   every key(create t);\n"
            + "end\n"
            + "procedure main();\n"
            + "   &error := 20;\n"
            + "   t := \"ab(c)1a2b\";\n"
            + "   r := rec(1, \"q\");\n"
            + "   C := (create get(every &pos));\n"
            + "   every r := (t & r);\n"
            + "   @((@C) \\ any(&lower, \"c\"));\n"
            + "   every seq(, @(@v)) do !&upper;\n"
            + "end\n",
            19296, "x\n\n12\n", "0 53 0 0 -2 2 8 0 1 0 0 19 19296 2", 734733988, 26, 2024791775, "u := t", "10", -303527420);
        drawn("global G, T, L, C;\n"
            + "record rec(x, y);\n"
            + "procedure q(w, l[]);\n"
            + "   v := p;\n"
            + "end\n"
            + "procedure f(n);\n"
            + "   proc(!T) | (&all -- ('ac' ** &all));\n"
            + "   G(, !&all)(delete(k, w <-> l), 1(@c, u <- (-2), !C));\n"
            + "end\n"
            + "procedure main();\n"
            + "   &error := 5;\n"
            + "   T := (u := \"hello 12\");\n"
            + "   G := (m := 2);\n"
            + "   l := [1, \"xy\", 33];\n"
            + "   k := group(l);\n"
            + "   r := rec(1, \"q\");\n"
            + "   c := (create t[&number][pos(3)]);\n"
            + "   f();\n"
            + "   write(image(r));\n"
            + "   k := group([(), v, &value]);\n"
            + "end\n"
            + "procedure p(v, n);\n"
            + "   every ?L[-3 : &error];\n"
            + "end\n",
            23096, "", "2 131 0 9 149 4 30 0 1 0 2 0 23096 2", 1688536423, 65, -1564116715, "", "", 1688536423);
        drawn("global L;\n"
            + "procedure main();\n"
            + "   &error := 1000;\n"
            + "   L := [\"abc\", []];\n"
            + "   h := table(\"dd\");\n"
            + "   pull(L)(, &pos ||:= \"c3 b33\"[-2]);\n"
            + "end\n",
            21915, "", "0 31 0 0 -2 3 3 2 1 0 0 1000 21915 2", -480558413, 15, -2041299347, "&pos <- h", "0", -1876915781);
        drawn("global G;\n"
            + "record rec(x, y);\n"
            + "procedure q(w, l[]);\n"
            + "   write(image((suspend)()));\n"
            + "   |r;\n"
            + "end\n"
            + "procedure main();\n"
            + "   &error := 1000;\n"
            + "   G := (m := 2);\n"
            + "   k := group(l);\n"
            + "   r := rec(1, \"q\");\n"
            + "   ((\"b\" >> m) ? (&value === l)) | (G := (if () then &subject else &subject));\n"
            + "   \"rec\"(r <- (case &value of { default : r }), get([]));\n"
            + "   k;\n"
            + "end\n",
            22096, "", "0 45 0 0 -2 3 6 1 1 0 0 1000 22096 2", -1895708491, 22, -292305917, "q(&null, &error,)", "10", -162828590);
        drawn("global G, T, K;\n"
            + "procedure main();\n"
            + "   T := (u := \"hello 12\");\n"
            + "   G := (m := 2);\n"
            + "   l := [1, \"xy\", 33];\n"
            + "   h := table(\"dd\");\n"
            + "   K := group();\n"
            + "   &subject <-> G;\n"
            + "   p(?bal(), '' - many('123c', &subject, -3), every m);\n"
            + "   every T := (u ~== &letters)[*&number];\n"
            + "end\n"
            + "procedure p(v, n);\n"
            + "   write(image(p ! l));\n"
            + "   suspend h[v] <-> h[p];\n"
            + "end\n",
            16166, "", "2 60 0 10 246 3 7 53 1 1 1 0 280799079 1", -1421756143, 30, -150918122, "", "", -1421756143);
    }

    private static void seventh() {
        drawn("global T, V;\n"
            + "procedure main();\n"
            + "   &error := 1000;\n"
            + "   t := \"ab(c)1a2b\";\n"
            + "   T := (u := \"hello 12\");\n"
            + "   ((!T) || &digits) ? (V === upto(u, t));\n"
            + "end\n",
            19914, "", "0 144 0 0 -2 0 2 88 1 0 0 1000 19914 2", 609913592, 72, 329966443, "upto(move(&pos))", "0", 1998949819);
        drawn("global T, V, L, K, C;\n"
            + "record rec(x, y);\n"
            + "procedure main();\n"
            + "   &error := 20;\n"
            + "   t := \"ab(c)1a2b\";\n"
            + "   l := [1, \"xy\", 33];\n"
            + "   K := group();\n"
            + "   c := (create (until &null do rec) == set(T));\n"
            + "   C := (create ^(every u do L));\n"
            + "   write(image(\"p\"(member(l(&null, &value, ())))));\n"
            + "   main(&number, V, w) ~=== (@c);\n"
            + "   case (return q()) of { default : (if f((), &random, &null) then \"write\"(t, V) else write((), -1, write)) };\n"
            + "end\n"
            + "procedure q(w, l[]);\n"
            + "   q();\n"
            + "   every (return n);\n"
            + "end\n"
            + "procedure p(v, n);\n"
            + "   f();\n"
            + "end\n"
            + "procedure f(n);\n"
            + "   (C := C) & member(K, &null);\n"
            + "end\n",
            7248, "", "1 3900 0 0 -2 380 1500 0 1 0 47 1 7248 353", 23445642, 1950, -1189378176, "", "", 23445642);
        drawn("global T, H;\n"
            + "procedure f(n);\n"
            + "   every ((H[\"k\"][2 +: 4] <- t) & ((u <- \"xyz\") & &fail)) | &value;\n"
            + "end\n"
            + "procedure main();\n"
            + "   &error := 5;\n"
            + "   t := \"ab(c)1a2b\";\n"
            + "   n := 3;\n"
            + "   l := [1, \"xy\", 33];\n"
            + "   H := insert(table(), 1, \"one\");\n"
            + "   every u[0 +: 2] || ((u := \"\") & ());\n"
            + "   every t[2 : 2] ! ((T := \"xyz\") & t[1 to 3]) do f();\n"
            + "   l + ((T := \"longer text\") & n);\n"
            + "end\n",
            8217, "", "0 79 0 0 -2 2 8 0 1 0 0 0 8217 2", 592193682, 39, -955300684, "((u[2 : 3] <- t) & ((u := \"a\") & &fail)) | write", "2", 677919601);
        drawn("global L;\n"
            + "record rec(x, y);\n"
            + "procedure f(n);\n"
            + "   initial @r;\n"
            + "   q ! [];\n"
            + "   write(image(!(n = m)));\n"
            + "end\n"
            + "procedure q(w, l[]);\n"
            + "   pull(l) & h;\n"
            + "   every !L;\n"
            + "end\n"
            + "procedure main();\n"
            + "   &error := 1000;\n"
            + "   n := 3;\n"
            + "   l := [1, \"xy\", 33];\n"
            + "   L := [\"abc\", []];\n"
            + "   r := rec(1, \"q\");\n"
            + "   sort(h)[n to &random] <-> h[f(&value, m, w)];\n"
            + "   write(image(suspend proc(u[&pos])));\n"
            + "end\n",
            9341, "x\n\n12\n", "0 45 0 0 -2 4 14 0 1 0 0 998 9341 2", -1880154181, 22, 1977570467, "c({ &fail }, m *:= 4)", "0", 848452833);
        drawn("global L, K;\n"
            + "procedure main();\n"
            + "   t := \"ab(c)1a2b\";\n"
            + "   L := [\"abc\", []];\n"
            + "   k := group(l);\n"
            + "   K := group();\n"
            + "   &pos :=: ((k ** K) & table(write))[L ||| L];\n"
            + "end\n",
            9288, "", "2 30 0 1 116 7 9 0 1 0 1 0 9288 1", -1696327113, 15, 420750663, "", "", -1696327113);
        drawn("procedure main();\n"
            + "   &error := 1000;\n"
            + "   every 1 to 11 do write(repl(\"abcde\", 100));\n"
            + "   write(repl(\"x\", 448));\n"
            + "   proc(\"c)a))b\"[100000000000000000000]) \\ (m - (-3));\n"
            + "end\n",
            7846, "one\ntwo", "0 100 5960 0 -2 0 1 5948 1 0 0 999 7846 2", -1351051871, 50, 1598756414, "every m >= m do s := write", "0", -1657600358);
        drawn("procedure main();\n"
            + "   &error := 5;\n"
            + "   t := \"ab(c)1a2b\";\n"
            + "   n := 3;\n"
            + "   h := table(\"dd\");\n"
            + "   k := group(l);\n"
            + "   h(t[&error], n === (-1));\n"
            + "   write(image(&subject ? k));\n"
            + "end\n",
            12426, "", "0 42 11 0 -2 2 5 10 1 0 0 5 12426 2", -1745693880, 21, 1587504100, "pos()", "0", 293084823);
        drawn("global K, C;\n"
            + "procedure main();\n"
            + "   &error := 1000;\n"
            + "   k := group(l);\n"
            + "   K := group();\n"
            + "   c := (create &pos);\n"
            + "   C := (create ^c);\n"
            + "   C(, ?[@c, !k]);\n"
            + "   (@C) | ((k | k) ++ K);\n"
            + "end\n",
            2517, "", "0 36 0 0 -2 5 12 0 1 0 0 1000 2517 2", -1390376968, 18, 1389398247, "'1c'", "10", -1547917826);
        drawn("procedure main();\n"
            + "   &error := 20;\n"
            + "   t := \"ab(c)1a2b\";\n"
            + "   l := [1, \"xy\", 33];\n"
            + "   c := (create (create upto('a', &subject)));\n"
            + "   every (every reverse(t));\n"
            + "   every t |||:= (|l);\n"
            + "end\n",
            17341, "", "2 88 0 5 166 2 9 9 1 0 1 0 17341 1", 2000341943, 44, -89253061, "", "", 2000341943);
        drawn("global G, T;\n"
            + "procedure q(w, l[]);\n"
            + "   write(repeat { r; if &null then (break ()) }, return 100000000000000000000, !'1ac');\n"
            + "end\n"
            + "procedure f(n);\n"
            + "   initial ?k;\n"
            + "   every l;\n"
            + "   m := G;\n"
            + "end\n"
            + "procedure p(v, n);\n"
            + "   /T[7];\n"
            + "end\n"
            + "procedure main();\n"
            + "   &error := 20;\n"
            + "   T := (u := \"hello 12\");\n"
            + "   G := (m := 2);\n"
            + "   k := group(l);\n"
            + "   f ! list((-3) < &random, s <- main);\n"
            + "   q((), r, k)[if main then m else &pos] <- G;\n"
            + "end\n",
            11958, "one\ntwo", "0 69 0 0 -2 2 11 21 1 0 0 18 11958 4", -1858530922, 34, -1539686320, "&subject(p,)", "0", 542592554);
    }

    private static void eighth() {
        drawn("global T, L, K;\n"
            + "procedure main();\n"
            + "   &error := 1000;\n"
            + "   T := (u := \"hello 12\");\n"
            + "   L := [\"abc\", []];\n"
            + "   k := group(l);\n"
            + "   K := group();\n"
            + "   L(k := insert(delete(K, &null), s ++:= &upper),);\n"
            + "end\n",
            22373, "", "0 44 0 0 -2 4 6 0 1 0 0 999 22373 2", -635541232, 22, -2017613416, "T[&number] --:= &digits", "10", 51532027);
        drawn("global L, C;\n"
            + "procedure main();\n"
            + "   &error := 5;\n"
            + "   l := [1, \"xy\", 33];\n"
            + "   h := table(\"dd\");\n"
            + "   C := (create (l ||| L) ? (100 > 7));\n"
            + "   h[1][1 to 3 : 1 to 3] :=: C;\n"
            + "   write(image(set(text(l))));\n"
            + "end\n",
            3012, "", "2 55 0 2 156 3 7 0 1 0 1 0 3012 1", 59009715, 27, -1198123391, "", "", 59009715);
        drawn("global G;\n"
            + "procedure main();\n"
            + "   &error := 5;\n"
            + "   G := (m := 2);\n"
            + "   every 1 to 199 do repl(\"a\", 500);\n"
            + "   repl(\"a\", 472);\n"
            + "   every (case () of { default : &null; main : &value }) \\ (G ^ &number);\n"
            + "   s ++:= &upper;\n"
            + "end\n",
            21443, "", "0 1025 0 0 -2 0 2 99972 1 0 0 3 21443 2", -2027593646, 512, -1424925230, "proc(\"2(b\" || &lower)", "0", 1203163314);
        drawn("global G, T, V;\n"
            + "procedure main();\n"
            + "   &error := 1000;\n"
            + "   T := (u := \"hello 12\");\n"
            + "   G := (m := 2);\n"
            + "   k := group(l);\n"
            + "   k <-> &subject;\n"
            + "   every copy();\n"
            + "end\n"
            + "procedure p(v, n);\n"
            + "   every copy(V *:= G);\n"
            + "   every key();\n"
            + "end\n",
            14988, "", "0 28 0 0 -2 1 4 0 1 0 0 999 14988 2", -1102689146, 14, -337445381, "(until v do p) ~=== T", "0", -1508706658);
        drawn("global K, C;\n"
            + "procedure main();\n"
            + "   &error := 5;\n"
            + "   t := \"ab(c)1a2b\";\n"
            + "   n := 3;\n"
            + "   K := group();\n"
            + "   C := (create r.y[0 -: 4]);\n"
            + "   every n[1 to 2 +: 0] ||:= t[1 : 1 to 3];\n"
            + "   every proc(K % ((u <- \"longer text\") & t[1 to 2]));\n"
            + "end\n",
            8895, "", "2 54 0 4 150 2 8 2 1 0 1 0 8895 1", 552354666, 27, 1305976467, "", "", 552354666);
        drawn("global L, H, C;\n"
            + "procedure main();\n"
            + "   &error := 1000;\n"
            + "   L := [\"abc\", []];\n"
            + "   h := table();\n"
            + "   H := insert(table(), 1, \"one\");\n"
            + "   k := group(l);\n"
            + "   c := (create C);\n"
            + "   every member(, u ? &value);\n"
            + "   every @(^c);\n"
            + "   k(@(create c), \\L[4]);\n"
            + "end\n",
            23263, "", "0 57 0 0 -2 8 23 0 1 0 0 999 23263 2", -328336337, 28, 1868606417, "member(insert(h, &null, main), k -- H)", "0", 2067610390);
        drawn("global G, T, L;\n"
            + "procedure main();\n"
            + "   &error := 20;\n"
            + "   T := (u := \"hello 12\");\n"
            + "   G := (m := 2);\n"
            + "   l := [1, \"xy\", 33];\n"
            + "   L := [\"abc\", []];\n"
            + "   every =T[G : -3];\n"
            + "   |(T[min(&pos, 2, -1)] :=: l[m][m]);\n"
            + "   write(image(insert(table(&fail))));\n"
            + "end\n",
            113, "", "0 64 0 0 -2 3 8 10 1 0 0 20 113 2", 1821251976, 32, 450602518, "L[G] |||:= list(100, ())", "10", 1569834);
        drawn("global L, C;\n"
            + "procedure main();\n"
            + "   &error := 1000;\n"
            + "   l := [1, \"xy\", 33];\n"
            + "   L := [\"abc\", []];\n"
            + "   C := (create C);\n"
            + "   write(image(suspend l <-> &random do { (-3) - &random; L := l; '3c' }));\n"
            + "   every l **:= (&lower ** set(&subject, &null));\n"
            + "end\n",
            11692, "x\n\n12\n", "0 46 0 0 -2 4 7 0 1 0 0 999 11692 2", 1399114298, 23, -467405561, "@C", "10", -1306589916);
        drawn("global G, T;\n"
            + "procedure main();\n"
            + "   &error := 1000;\n"
            + "   T := (u := \"hello 12\");\n"
            + "   n := 3;\n"
            + "   G := (m := 2);\n"
            + "   (=any(pos(G))) ? (&pos :=: map(T ? u, &digits, &subject));\n"
            + "   every ((u ? &null) & (&subject := u)) & &pos;\n"
            + "   move(&subject := n);\n"
            + "end\n",
            5451, "one\ntwo", "0 54 0 0 -2 0 3 1 1 1 0 1000 5451 2", 900651123, 27, 1229727846, "&pos %:= (&error - &random)", "10", 2129961187);
        drawn("global G, L, H;\n"
            + "record rec(x, y);\n"
            + "procedure main();\n"
            + "   t := \"ab(c)1a2b\";\n"
            + "   G := (m := 2);\n"
            + "   L := [\"abc\", []];\n"
            + "   H := insert(table(), 1, \"one\");\n"
            + "   c := (create (n > G) ^ pos(n));\n"
            + "   t[G : m] := rec(w, &value);\n"
            + "   |c;\n"
            + "   every !reverse(reverse(L));\n"
            + "end\n",
            23689, "x\n\n12\n", "2 33 0 2 194 5 15 0 1 0 1 0 23689 1", 1065178394, 16, 11085817, "", "", 1065178394);
    }

    private static void ninth() {
        drawn("global V;\n"
            + "record rec(x, y);\n"
            + "procedure q(w, l[]);\n"
            + "   initial f(n, 3, rec);\n"
            + "   q(?l, delete(h, ()), key(h));\n"
            + "end\n"
            + "procedure main();\n"
            + "   &error := 1000;\n"
            + "   r := rec(1, \"q\");\n"
            + "   every (&pos :=: &pos) ? r(tab(, V),);\n"
            + "end\n"
            + "procedure f(n);\n"
            + "   write(image('ab'));\n"
            + "end\n",
            20842, "", "0 25 0 0 -2 1 3 1 1 0 0 999 20842 2", -1433911089, 12, -1055570135, "move(&random)", "0", 626230005);
        drawn("global T, V, C;\n"
            + "procedure p(v, n);\n"
            + "   pull(write((), -3, v));\n"
            + "   \"p\"(return (), !C);\n"
            + "end\n"
            + "procedure main();\n"
            + "   &error := 20;\n"
            + "   T := (u := \"hello 12\");\n"
            + "   C := (create (every &number));\n"
            + "   (@{ V; c }) \\ p(write, 100, V);\n"
            + "   u[&random] :=: T[&random -: -3];\n"
            + "end\n",
            15317, "", "0 46 0 0 -2 1 6 0 1 0 0 18 15317 4", -471769046, 23, 1055701241, "every () do ()", "0", 1338160433);
        drawn("global C;\n"
            + "record rec(x, y);\n"
            + "procedure main();\n"
            + "   &error := 20;\n"
            + "   n := 3;\n"
            + "   l := [1, \"xy\", 33];\n"
            + "   k := group(l);\n"
            + "   r := rec(1, \"q\");\n"
            + "   c := (create read()[@C -: set(u)]);\n"
            + "   r.x;\n"
            + "   n := (@C);\n"
            + "end\n"
            + "procedure q(w, l[]);\n"
            + "   @(every C do rec);\n"
            + "   \"max\"((), l);\n"
            + "end\n",
            2396, "x\n\n12\n", "0 34 0 0 -2 4 20 0 1 0 0 19 2396 2", -495315389, 17, -1114588780, "q(m ++ k, &pos | 2, m := u, c)", "0", 1271860745);
        drawn("global L, K;\n"
            + "record rec(x, y);\n"
            + "procedure main();\n"
            + "   t := \"ab(c)1a2b\";\n"
            + "   l := [1, \"xy\", 33];\n"
            + "   L := [\"abc\", []];\n"
            + "   h := table(\"dd\");\n"
            + "   r := rec(1, \"q\");\n"
            + "   t[3] <- [];\n"
            + "   every m :=: h[r];\n"
            + "end\n"
            + "procedure q(w, l[]);\n"
            + "   initial member(K, ());\n"
            + "   write(image(\\c));\n"
            + "end\n",
            2200, "one\ntwo", "2 30 0 2 164 6 12 0 1 0 1 0 2200 1", 412300434, 15, 885214168, "", "", 412300434);
        drawn("global H, K;\n"
            + "procedure main();\n"
            + "   &error := 1000;\n"
            + "   t := \"ab(c)1a2b\";\n"
            + "   H := insert(table(), 1, \"one\");\n"
            + "   k := group(l);\n"
            + "   K := group();\n"
            + "   c := (create k <- (K | k));\n"
            + "   every proc(&subject == &subject);\n"
            + "   every ?(case @c of { key(H) : =t });\n"
            + "   K := ((K ++ k) ++ K);\n"
            + "end\n",
            18436, "", "0 58 0 0 -2 6 9 0 1 0 0 1000 18436 2", 1478064533, 29, -183327505, "insert(h, write)", "0", 437125678);
        drawn("global G, V, L, C;\n"
            + "record rec(x, y);\n"
            + "procedure main();\n"
            + "   &error := 5;\n"
            + "   n := 3;\n"
            + "   l := [1, \"xy\", 33];\n"
            + "   L := [\"abc\", []];\n"
            + "   r := rec(1, \"q\");\n"
            + "   c := (create (repeat { r; if V then (break &value) }));\n"
            + "   C := (create tab(0 to G));\n"
            + "   f();\n"
            + "   3((suspend u) | q(L, -3, if l then () else r), proc(q()),);\n"
            + "   (@c) \\ \"p\"(main, write);\n"
            + "end\n"
            + "procedure p(v, n);\n"
            + "   initial C <- c;\n"
            + "   \"\" ? ();\n"
            + "end\n"
            + "procedure q(w, l[]);\n"
            + "   every !(q ! l);\n"
            + "end\n"
            + "procedure f(n);\n"
            + "   (.n) \\ many(&letters);\n"
            + "   if f(&number, &all, write) then \"max\"((), p) else v(&number, &value);\n"
            + "end\n",
            8840, "", "2 791 0 6 533 6 140 0 1 0 56 0 8840 64", 859187064, 395, -104986105, "", "", 859187064);
        drawn("global K, C;\n"
            + "procedure main();\n"
            + "   l := [1, \"xy\", 33];\n"
            + "   h := table();\n"
            + "   K := group();\n"
            + "   C := (create (create pos(100000000000000000000000000000000000000000000000000000000000)));\n"
            + "   every l <- [];\n"
            + "   (q ! list(&pos, main)) | member(K, ?&digits);\n"
            + "end\n"
            + "procedure q(w, l[]);\n"
            + "   h <-> &error;\n"
            + "end\n",
            4700, "", "2 34 0 1 278 7 11 0 1 0 2 0 4700 2", -1645064552, 17, 1324026243, "", "", -1645064552);
        drawn("global L, C;\n"
            + "procedure main();\n"
            + "   &error := 1000;\n"
            + "   n := 3;\n"
            + "   L := [\"abc\", []];\n"
            + "   c := (create tab(upto(, t)));\n"
            + "   C := (create ^\"p\"(&value, t));\n"
            + "   { |(@C); create @C };\n"
            + "   q ! [^c];\n"
            + "end\n"
            + "procedure q(w, l[]);\n"
            + "   write(image(''));\n"
            + "   @c;\n"
            + "end\n"
            + "procedure p(v, n);\n"
            + "   every @q(C, n, t);\n"
            + "   t;\n"
            + "end\n",
            5269, "", "0 68 6 0 -2 9 29 4 1 0 0 998 5269 8", 142601861, 34, -874218029, "L[n] <- 1", "0", 588203033);
        drawn("global V, H, C;\n"
            + "procedure p(v, n);\n"
            + "   initial |&null;\n"
            + "   every H[&error] /:= (every -2);\n"
            + "end\n"
            + "procedure main();\n"
            + "   &error := 1000;\n"
            + "   t := \"ab(c)1a2b\";\n"
            + "   l := [1, \"xy\", 33];\n"
            + "   H := insert(table(), 1, \"one\");\n"
            + "   C := (create V);\n"
            + "   C <- (create tab(3)[group(l)]);\n"
            + "   every (suspend (suspend V do p));\n"
            + "end\n",
            328, "", "0 30 0 0 -2 4 10 0 1 0 0 1000 328 2", 1460595414, 15, 1166938164, "every text(1) do (break t)", "10", -470441759);
        drawn("global H, C;\n"
            + "record rec(x, y);\n"
            + "record pair(y, z, x);\n"
            + "procedure main();\n"
            + "   t := \"ab(c)1a2b\";\n"
            + "   l := [1, \"xy\", 33];\n"
            + "   h := table();\n"
            + "   H := insert(table(), 1, \"one\");\n"
            + "   k := group(l);\n"
            + "   C := (create (create key(h)));\n"
            + "   H[t := t] <- pair(&number, rec);\n"
            + "   if l[1] then key(table(w)) else (while l :=: u do C);\n"
            + "   k;\n"
            + "end\n",
            13296, "one\ntwo", "0 53 0 0 -2 7 23 0 1 0 0 0 13296 2", 1749593709, 26, -1134686969, "h -:= \")\"", "2", 819643680);
    }

    private static void tenth() {
        drawn("global G, K, C;\n"
            + "procedure main();\n"
            + "   &error := 5;\n"
            + "   t := \"ab(c)1a2b\";\n"
            + "   G := (m := 2);\n"
            + "   K := group();\n"
            + "   C := (create @c);\n"
            + "   C := (t[2 : 4][2 +: 1 to 3] >> ((t := \"a\") & &number));\n"
            + "   (=(if q((), -3, &fail) then t[0 +: 2] else G[0])) ? '2';\n"
            + "   write(image(copy()));\n"
            + "end\n"
            + "procedure q(w, l[]);\n"
            + "   write(image(k := K));\n"
            + "end\n",
            23569, "", "0 76 6 0 -2 2 6 5 1 0 0 2 23569 2", 1374051832, 38, -1788704043, "() \\ 1", "10", 1624232918);
        drawn("global L, K;\n"
            + "procedure main();\n"
            + "   &error := 20;\n"
            + "   t := \"ab(c)1a2b\";\n"
            + "   n := 3;\n"
            + "   L := [\"abc\", []];\n"
            + "   k := group(l);\n"
            + "   K := group();\n"
            + "   c := (create q(&null, '1ac', (), ()) = (every &subject));\n"
            + "   q(?insert(K, ()),, @c);\n"
            + "   every ?(return L);\n"
            + "   every k;\n"
            + "end\n"
            + "procedure q(w, l[]);\n"
            + "   suspend p do n;\n"
            + "end\n"
            + "procedure p(v, n);\n"
            + "   every 3(w, main, t);\n"
            + "end\n",
            13182, "", "0 66 0 0 -2 6 19 0 1 0 0 20 1631224031 6", -173492593, 33, -1197772994, "m", "10", -712496239);
        drawn("procedure main();\n"
            + "   k := group(l);\n"
            + "   while copy(k);\n"
            + "end\n",
            4395, "x\n\n12\n", "2 3006 0 15 49 1000 2 0 1 0 1 0 4395 1", -535166793, 1503, 283649000, "", "", -535166793);
        drawn("global C;\n"
            + "record rec(x, y);\n"
            + "procedure q(w, l[]);\n"
            + "   C;\n"
            + "   ((!l) := upto('c', &subject)) \\ (&error % (-1));\n"
            + "end\n"
            + "procedure main();\n"
            + "   &error := 20;\n"
            + "   l := [1, \"xy\", 33];\n"
            + "   h := table();\n"
            + "   k := group(l);\n"
            + "   r := rec(1, \"q\");\n"
            + "   c := (create k);\n"
            + "   C := (create t[() : &pos] :=: r.x);\n"
            + "   q(!(not r), pos(match(&subject,)), v);\n"
            + "   every 3(!k, l, @c);\n"
            + "   not (?r);\n"
            + "end\n",
            23901, "x\n\n12\n", "0 68 0 0 -2 6 29 0 1 0 0 20 1871202002 2", 2128775543, 34, 1632878708, "u(, h <-> v)", "0", -253662069);
        drawn("global H, K, C;\n"
            + "procedure f(n);\n"
            + "   every f(&fail, K, h);\n"
            + "   l := [t, l];\n"
            + "end\n"
            + "procedure main();\n"
            + "   &error := 5;\n"
            + "   t := \"ab(c)1a2b\";\n"
            + "   l := [1, \"xy\", 33];\n"
            + "   h := table();\n"
            + "   K := group();\n"
            + "   c := (create 3(key(H), k := (-3), [l, (), ()]));\n"
            + "   C := (create c);\n"
            + "   every key();\n"
            + "   group((while &fail do &fail) ||| put(l, &null, &null));\n"
            + "   write(image(f(!&upper, repl(\"3\", &random), @C)));\n"
            + "end\n",
            4994, "", "2 80 0 13 366 5 18 0 1 0 1 0 4994 1", -379101094, 40, -1191500611, "", "", -379101094);
        drawn("global G, T, L;\n"
            + "record rec(x, y);\n"
            + "procedure main();\n"
            + "   &error := 5;\n"
            + "   T := (u := \"hello 12\");\n"
            + "   G := (m := 2);\n"
            + "   l := [1, \"xy\", 33];\n"
            + "   L := [\"abc\", []];\n"
            + "   r := rec(1, \"q\");\n"
            + "   every |(&pos - (-1)) do (if !L then G ||:= T else m := n);\n"
            + "   every group(L);\n"
            + "   every get(put(l[n : &pos], f(c, m, &null), () \\ (-2)));\n"
            + "end\n"
            + "procedure f(n);\n"
            + "   initial T;\n"
            + "   not r.z;\n"
            + "end\n"
            + "procedure q(w, l[]);\n"
            + "   every ''[m] ^:= &upper;\n"
            + "end\n",
            21812, "", "2 1057 0 13 219 4 13 15686 1 0 1 0 21812 1", 1361153706, 528, -177625154, "", "", 1361153706);
        drawn("global V;\n"
            + "procedure main();\n"
            + "   &error := 5;\n"
            + "   until proc() do write(&subject, \"3b)(3\", V);\n"
            + "end\n",
            17981, "one\ntwo", "2 46 30 2 57 0 0 0 1 0 1 0 17981 1", -381328126, 23, -101997852, "", "", -381328126);
        drawn("procedure main();\n"
            + "   l := [1, \"xy\", 33];\n"
            + "   /(!l);\n"
            + "   write(image(l <- min(-1, m, &random)));\n"
            + "end\n",
            5717, "", "2 25 0 1 74 1 5 0 1 0 1 0 5717 1", 1235757685, 12, -903199897, "", "", 1235757685);
        drawn("procedure main();\n"
            + "   &error := 5;\n"
            + "   h := table(\"dd\");\n"
            + "   every h[w] <-> w;\n"
            + "   |h[1][1 to 3 -: 3];\n"
            + "end\n",
            20589, "x\n\n12\n", "0 41 0 0 -2 1 3 0 1 0 0 5 20589 2", 19997377, 20, 438216405, "!u[1]", "0", 153121368);
        drawn("global T, C;\n"
            + "record rec(x, y);\n"
            + "procedure q(w, l[]);\n"
            + "   every v <- (^c);\n"
            + "   pull(v := (^C)) \\ (7 / 3);\n"
            + "end\n"
            + "procedure main();\n"
            + "   &error := 20;\n"
            + "   t := \"ab(c)1a2b\";\n"
            + "   T := (u := \"hello 12\");\n"
            + "   r := rec(1, \"q\");\n"
            + "   c := (create pos(match(T, t)));\n"
            + "   C := (create (T :=: c) | (.n));\n"
            + "   every 1 to 11 do list(500);\n"
            + "   list(344);\n"
            + "   every (T ||:= seq()) === (@(C := (create \"2a 2b\")));\n"
            + "   (@(@c))[@(v := (^c)) : |(@C)] <- (@((return) | (r | r)));\n"
            + "   t <- pull();\n"
            + "end\n",
            3131, "", "2 468 0 14 362 37 5996 1885 1 0 1 0 3131 1", 1552136260, 234, -38623484, "", "", 1552136260);
    }

    public static void main(String[] args) {
        first();
        second();
        third();
        fourth();
        fifth();
        sixth();
        seventh();
        eighth();
        ninth();
        tenth();
        end();
    }
}
