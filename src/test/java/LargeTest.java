import java.math.BigInteger;
import java.util.Random;

/** What is large, or many: wholes against the library's, tables of many keys, long lists of arguments. */
public final class LargeTest extends Check {
    private static final BigInteger LIMIT = BigInteger.TEN.pow(60);

    private LargeTest() {
    }

    private static BigInteger draw(Random random) {
        int digits = 1 + random.nextInt(60);
        BigInteger n = new BigInteger(200, random).mod(BigInteger.TEN.pow(digits));
        if (random.nextInt(3) == 0) {
            // Limbs of nine digits that are 0 or the largest ones.
            n = BigInteger.TEN.pow(9 * random.nextInt(7)).multiply(BigInteger.valueOf(1 + random.nextInt(3))).add(BigInteger.valueOf(random.nextInt(3) - 1));
        }
        return random.nextBoolean() ? n.negate() : n;
    }

    private static String told(BigInteger n) {
        return n.abs().compareTo(LIMIT) >= 0 ? "break 12" : n.toString();
    }

    private static void reckon(GoalHouse x, String expression, String want) {
        String got = results(x, expression, 2);
        int at = got.indexOf(" at ");
        due(expression, at < 0 ? got.replace(" .", "") : got.substring(0, at), want);
    }

    private static void wholes() {
        Random random = new Random(7);
        for (int round = 0; round < 60; round++) {
            GoalHouse x = body("");
            BigInteger a = draw(random);
            BigInteger b = draw(random);
            if (a.abs().compareTo(LIMIT) >= 0 || b.abs().compareTo(LIMIT) >= 0) {
                continue;
            }
            String pair = "(" + a + ") % (" + b + ")";
            boolean none = b.signum() == 0;
            reckon(x, pair.replace("%", "+"), told(a.add(b)));
            reckon(x, pair.replace("%", "-"), told(a.subtract(b)));
            reckon(x, pair.replace("%", "*"), told(a.multiply(b)));
            reckon(x, pair.replace("%", "/"), none ? "break 11" : told(a.divide(b)));
            reckon(x, pair, none ? "break 11" : told(a.remainder(b)));
            reckon(x, pair.replace("%", "<"), a.compareTo(b) < 0 ? told(b) : ".");
            reckon(x, pair.replace("%", "==="), a.equals(b) ? told(b) : ".");
            reckon(x, "gcd(" + a + ", " + b + ")", told(a.gcd(b)));
            reckon(x, "+\"" + a + "\"", told(a));
            reckon(x, "-(" + a + ")", told(a.negate()));
            reckon(x, "abs(" + a + ")", told(a.abs()));
            reckon(x, "max(" + a + ", " + b + ")", told(a.max(b)));
            reckon(x, "min(\"" + a + "\", \"" + b + "\")", told(a.min(b)));
            int n = random.nextInt(12);
            BigInteger small = a.mod(BigInteger.valueOf(1000000));
            reckon(x, small + " ^ " + n, told(small.pow(n)));
        }
    }

    /** Quotients whose digit is guessed one too large. */
    private static void quotients() {
        String[] pairs = {"500000000000000001500000000796031015877463606999999999", "500000000000000001500000000796031015877463607",
            "250000000500000000000000000500000000", "500000000000000000000000001",
            "500000000000000000000000001441826609587831089999999999", "500000000000000000000000001441826609587831090",
            "250000000000000000250000000034971615999999999", "500000000000000000500000000069943232",
            "250000000500000000250000000678678581407269597099824869", "500000000000000000500000000357357162099824870",
            "500000000000000001198398753812428203195385332999999999", "500000000000000001198398753812428203195385333",
            "500000000543954627973250994999999999", "500000000543954627973250995", "500000001037701895029679478124939204", "500000001999999999869286560",
            "500000001323927981970500351", "500000001999999999", "500000001834183730861676365", "500000001930937568", "420273718840547435159452563", "500000000999999999",
            "120420722428679887601941555", "500000001779925749", "380534490756613963998630642289324416", "500000001999999999214193478", "966358318033641680000000001", "966358318999999999",
            "308397940734000442430062961506511547861329821", "500000001999999999229168714928661013", "256815869094485163161706851", "513631737161706852",
            many("9", 60), many("9", 31), many("9", 60), "1" + many("0", 30), "1" + many("0", 59), "3", "1" + many("0", 59), "1" + many("0", 20) + "1"};
        for (int i = 0; i < pairs.length; i += 2) {
            GoalHouse x = body("");
            BigInteger a = new BigInteger(pairs[i]);
            BigInteger b = new BigInteger(pairs[i + 1]);
            reckon(x, a + " / " + b, a.divide(b).toString());
            reckon(x, a + " % " + b, a.remainder(b).toString());
            reckon(x, "-" + a + " / " + b, a.divide(b).negate().toString());
            reckon(x, "-" + a + " % -" + b, a.remainder(b).negate().toString());
        }
    }

    /** Products of 60 digits, and of one more; however far beyond. */
    private static void products() {
        for (int i = 0; i < 60; i++) {
            GoalHouse x = body("");
            String ten = "1" + many("0", i);
            reckon(x, ten + " * 1" + many("0", 59 - i), "1" + many("0", 59));
            reckon(x, ten + " * 1" + many("0", Math.min(59, 60 - i)), i == 0 ? "1" + many("0", 59) : "break 12");
            reckon(x, ten + " * 1" + many("0", Math.min(59, 63 - i)), i < 1 ? "1" + many("0", 59) : "break 12");
            reckon(x, "-" + ten + " * 1" + many("0", Math.min(59, 72 - i)), i < 1 ? "-1" + many("0", 59) : "break 12");
            reckon(x, ten + " * 1" + many("0", 59), i < 1 ? "1" + many("0", 59) : "break 12");
            reckon(x, many("9", i + 1) + " * 10", i < 59 ? many("9", i + 1) + "0" : "break 12");
        }
    }

    private static void alike() {
        String big = "1" + many("0", 40);
        gives(big + " === " + big, big + " .");
        gives(big + "1 === " + big + "2", ".");
        gives("1" + big + " === 2" + big, ".");
        gives(big + " ~=== " + big, ".");
        gives("\"ab\" === \"ac\" | \"ab\" === \"bb\" | \"a\" === \"b\" | \"abc\" === \"ab\"", ".");
        gives("\"\" === \"\" | \"a\" === \"a\" | \"abc\" === \"abc\"", "\"\" \"a\" \"abc\" .");
        gives("'ab' === 'ac' | '01' === '02' | '\\x80' === '\\x81' | '\\xfe' === '\\xff' | '' === 'a' | 'a' === ''", ".");
        gives("'\\x01\\x41\\x81\\xc1' === '\\xc1\\x81\\x41\\x01'", "'\\x01A\\x81\\xc1' .");
        gives("(s := \"abz\") & (s[1:3] << \"abc\")", "\"abc\" .");
        gives("(s := \"abz\") & (\"abc\" >> s[1:3])", "\"ab\" .");
        gives("(s := \"aba\") & (s[1:2] === s[3:4])", "\"a\" .");
        gives("\"\\x1a\\xaa\\xa9\\x9a\\xbb\"", "\"\\x1a\\xaa\\xa9\\x9a\\xbb\" .");
        gives("+\"1234567890\" | +\"123456789012345678\" | +'1234567890' | +\"999999999\" | +\"1000000000000000001\"", "1234567890 123456789012345678 123456789 999999999 1000000000000000001 .");
    }

    private static void keys() {
        for (int n : new int[] {7, 8, 9, 16, 17, 64, 65, 200}) {
            writes("t := table(); every t[1 to " + n + "] := 0; every i := 1 to " + n + " do t[i] := i * 2; n := 0; every i := key(t) do { n +:= 1; if i ~= n | t[i] ~= n * 2 then write(i) }; writes(*t, n)",
                "" + n + n);
            writes("g := group(); every insert(g, 1 to " + n + "); every insert(g, (1 to " + n + ") || \"\"); every delete(g, 2 to " + n + " by 2); every member(g, x := 1 to " + n + ") & x % 2 = 0 & writes(\"?\");"
                + "n := 0; every i := !g do if type(i) == \"whole\" then n +:= 1; writes(*g, \" \", n)", (n + (n + 1) / 2) + " " + (n + 1) / 2);
        }
        gives("(a := group([1, 2, 3, 4, 5, 6])) & (b := group([5, 6, 7, 8, 9, 10])) & (*(a ++ b) | *(a -- b) | *(a ** b))", "10 4 2 .");
        writes("a := group(); b := group(); every insert(a, 1 to 100); every insert(b, 51 to 150); write(*(a ++ b), \" \", *(a -- b), \" \", *(a ** b), \" \", *(b -- a)); n := 0; every i := !(a ++ b) do (n +:= 1) = i | write(i); write(n)",
            "150 50 50 50\n150\n");
        writes("l := []; every put(l, 1 to 100); g := group(l); every 1 to 55 do g ++ g; write(*group(l))", "100\n");
        GoalHouse x = whole("procedure main();t := table(\"none\");every t[[1 to 40][1] | \"a\" || (1 to 40) | set(1 to 9) | &null | main | write] := &pos;every delete(t, 1 to 40 by 3);every delete(t, \"a\" || (1 to 40 by 2));writes(*t);"
            + "every i := 1 to 40 do (if t[i] === \"none\" then i % 3 = 1 else i % 3 ~= 1) | writes(\"?\", i);"
            + "every i := 1 to 40 do (if t[\"a\" || i] === \"none\" then i % 2 = 1 else i % 2 = 0) | writes(\"!\", i);writes(image(t[main]), image(t[writes]), t[&null], t['5'], t['10']);end");
        due("keys of kinds", out(x, 0), "58" + "1\"none\"11none");
        due("ended", x.told(0, 0), 0);
    }

    private static void manyArguments() {
        StringBuilder b = new StringBuilder("1");
        StringBuilder sum = new StringBuilder("1");
        for (int i = 2; i <= 100; i++) {
            b.append(", ").append(i);
            sum.append(" + ").append(i);
        }
        gives("max(" + b + ") | 1(" + b + ") | 77(" + b + ") | (-1)(" + b + ") | *[" + b + "] | [" + b + "][64] | min(" + b + ")", "100 1 77 100 100 64 1 .");
        gives("(l := [" + b + "]) & (max ! l | 40 ! l | (-1) ! l)", "100 40 100 .");
        gives(sum.toString(), "5050 .");
        writes("l := []; every put(l, 1 to 100); write(max ! l, \" \", min ! l, \" \", 1 ! l, \" \", 31 ! l, \" \", 32 ! l, \" \", 33 ! l, \" \", 64 ! l, \" \", (-1) ! l)", "100 1 1 31 32 33 64 100\n");
        says("procedure f(a, b[]);return a * 1000000 + b[1] * 10000 + b[62] * 100 + *b;end;procedure main();l := [];every put(l, 1 to 63);write(f ! l);end", "1026362\n");
        writes("l := [" + b + "]; write ! l", b.toString().replace(", ", "") + "\n");
        says("procedure f(a, b[]);return a + *b + b[99] + b[1];end;procedure main();write(f(" + b + "));end", 1 + 99 + 100 + 2 + "\n");
        writtenAs("f(" + b + ")", "f(" + b + ")");
        writtenAs("[" + b + "]", "[" + b + "]");
        writtenAs("{ " + b.toString().replace(",", ";") + " }", "{ " + b.toString().replace(",", ";") + " }");
        writtenAs("case x of { " + b.toString().replace(", ", " : 7; ") + " : 8 }", "case x of { " + b.toString().replace(", ", " : 7; ") + " : 8 }");
        writtenAs(many("a + ", 300) + "b", many("(", 299) + "a" + many(" + a)", 299) + " + b");
        writtenAs(many("if a then b + (", 28) + "if a then b" + many(")", 28), many("if a then b + (", 28) + "if a then b" + many(")", 28));
        writtenAs("f(" + many("g(1, ", 58) + "2" + many(")", 58) + ")", "f(" + many("g(1, ", 58) + "2" + many(")", 58) + ")");
    }

    private static void manyThings() {
        writes("every x := |[] \\ 12; write(image(x)); every x := |[] \\ 111; write(image(x)); every x := |[] \\ 877; write(image(x)); ", "list_12(0)\nlist_123(0)\nlist_1000(0)\n");
        writes("write(image(list(10))); write(image(list(99))); write(image(list(500)))", "list_1(10)\nlist_2(99)\nlist_3(500)\n");
        writes("c := create |1; every 1 to 105 do @c; write(image(c))", "part_1(105)\n");
        writes("l := []; every push(l, 1 to 300); every put(l, 301 to 600); n := 0; every i := !l do n +:= i; write(*l, \" \", n, \" \", l[1], \" \", l[300], \" \", l[301], \" \", l[-1])", "600 180300 300 1 301 600\n");
        writes("l := list(10, 0); every i := 1 to 300 do { put(l, i); get(l) }; every i := 1 to 300 do { push(l, i); pull(l) }; write(*l, \" \", l[1], \" \", l[10])", "10 300 291\n");
        writes("l := sort(reverse(sort([5, 3, 9, 1, 7, 2, 8, 6, 4, 10, 11, 13, 12]))); every writes(!l, \" \")", "1 2 3 4 5 6 7 8 9 10 11 12 13 ");
    }

    public static void main(String[] args) {
        wholes();
        quotients();
        products();
        alike();
        keys();
        manyArguments();
        manyThings();
        end();
    }
}
