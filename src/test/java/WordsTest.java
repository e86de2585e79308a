/** Section 1 of the document: WORDS, and FAULTS 1 with their places; promise 5. */
public final class WordsTest extends Check {
    private static final String HEAD = "procedure main(); ";
    private static final int AT = HEAD.length();

    private WordsTest() {
    }

    /** A body that is read. */
    private static void fine(String body) {
        fault(HEAD + body + ";end", 0, 0);
    }

    /** A fault of a body, at this place in it. */
    private static void wrong(String body, int number, int at) {
        fault(HEAD + body + ";end", number, AT + at);
    }

    /** How many nodes a body has, of which kinds. */
    private static void nodes(String body, int... kinds) {
        GoalHouse x = new GoalHouse();
        due("source " + body, read(x, HEAD + body + ";end"), 0);
        due("nodes of " + body, x.count(0, 3), kinds.length);
        for (int i = 0; i < kinds.length; i++) {
            due("node " + i + " of " + body, x.node(0, i, 2), kinds[i]);
        }
    }

    private static void blanks() {
        fine("a\t:=\r1 \t\r ");
        for (int c : new int[] {0, 8, 11, 12, 14, 31, 127, 128, 160, 255, '$', '`'}) {
            wrong("a " + (char) c, 1, 2);
        }
        fine("a # all $ ` \" ' & that stands here\r still; end \n");
        fault("#", 0, 0);
        fault("# no 10 behind", 0, 0);
        fault("procedure main();end#", 0, 0);
        fault("procedure main() # ;", 2, 20);
        nodes("a#b\n#c\n+ d", 0, 5, 0);
        nodes("\"#\" # x\n", 2);
    }

    private static void names() {
        fine("a2345678901234567890");
        wrong("a23456789012345678901", 1, 20);
        wrong("a234567890123456789012345", 1, 20);
        wrong("_2345678901234567890_", 1, 20);
        fine("_ := __ := _1 := A_b9 := Z");
        fine("breaks := Break := ends := byby := mains");
        nodes("a_1b", 0);
        wrong("1a", 2, 1);
        String[] reserved = {"break", "by", "case", "create", "default", "do", "else", "end", "every", "fail", "global", "if", "initial", "local",
            "next", "not", "of", "procedure", "record", "repeat", "return", "static", "suspend", "then", "to", "until", "while"};
        for (String word : reserved) {
            fault("global a, " + word, 2, 10);
            fault("global " + word + "s", 0, 0);
        }
        due("reserved words", reserved.length, 27);
        fault("record end()", 2, 7);
        fault("procedure f(to);end", 2, 12);
    }

    private static void numbers() {
        fine(many("9", 60));
        wrong(many("9", 61), 1, 60);
        wrong(many("0", 61), 1, 60);
        wrong(many("1", 70), 1, 60);
        gives("1" + many("0", 59), "1" + many("0", 59) + " .");
        gives(many("0", 59) + "7", "7 .");
        wrong("a := " + many("9", 61), 1, 65);
        // The radix is 2 .. 36.
        wrong("0r0", 1, 0);
        wrong("1r0", 1, 0);
        fine("2r0");
        fine("36rZ");
        wrong("37r0", 1, 0);
        wrong("037r0", 1, 0);
        wrong("99999999999999999999r0", 1, 0);
        wrong("1r", 1, 0);
        wrong("37r!", 1, 0);
        // Its digits are 60 at most, 0s may be in front.
        gives(many("0", 58) + "36rz", "35 .");
        wrong(many("0", 59) + "36rz", 1, 60);
        // At a digit that is none of the radix, or where the first one lacks.
        wrong("2r", 1, 2);
        wrong("2r;", 1, 2);
        wrong("2r_", 1, 2);
        wrong("2r+1", 1, 2);
        wrong("2r2", 1, 2);
        wrong("2r012", 1, 4);
        wrong("10r9a", 1, 4);
        wrong("11r9ab", 1, 5);
        gives("11r9A | 11r9a | 36rzZ | 16rFf | 2r101 | 10r10", "109 109 1295 255 5 10 .");
        wrong("35rz", 1, 3);
        wrong("2r" + many("0", 60) + "1", 1, 62);
        gives("2r" + many("0", 59) + "1", "1 .");
        gives("2r" + many("1", 60), (1L << 60) - 1 + " .");
        // More than 60 digits, when it has ended.
        gives("10r" + many("9", 60), many("9", 60) + " .");
        fine("36r" + many("z", 38));
        wrong("36r" + many("z", 39), 1, 0);
        wrong("b+36r" + many("z", 39), 1, 2);
        wrong("36r" + many("z", 39) + "!", 1, 0);
        wrong("35r" + many("y", 39) + "z", 1, 42);
        wrong("36r" + many("z", 61), 1, 63);
        // A capital R is the letter of a NAME behind the NUMBER.
        wrong("2R1", 2, 1);
        wrong("16rFG", 1, 4);
        wrong("16rF_", 2, 4);
    }

    private static void texts() {
        gives("\" ~\" | \"'\" | \"\"", "\" ~\" \"'\" \"\" .");
        gives("\"\\\\\\\"\\'\\n\\t\\x00\\xfF\\x7e\"", "\"\\\\\\\"'\\n\\t\\x00\\xff~\" .");
        gives("'\\\\\\\"\\'\\n\\t\\x41'", "'\\t\\n\"\\'A\\\\' .");
        gives("'cabbac' | ''", "'abc' '' .");
        for (int c : new int[] {0, 9, 10, 13, 31, 127, 128, 255}) {
            wrong("\"a" + (char) c + "\"", 1, 2);
            wrong("'a" + (char) c + "'", 1, 2);
        }
        wrong("\"\\a\"", 1, 2);
        wrong("\"\\N\"", 1, 2);
        wrong("\"\\0\"", 1, 2);
        wrong("'\\q'", 1, 2);
        wrong("\"\\xg1\"", 1, 3);
        wrong("\"\\x1G\"", 1, 4);
        wrong("\"\\x1\"", 1, 4);
        wrong("\"\\X11\"", 1, 2);
        // At the length, if it does not end.
        String[] open = {"\"", "'", "\"abc", "'abc", "\"abc'", "\"\\", "\"\\x", "\"\\x4", "\"a\\\""};
        for (String text : open) {
            fault(HEAD + text, 1, AT + text.length());
        }
        // 200 bytes at most.
        gives("*\"" + many("a", 200) + "\"", "200 .");
        gives("*\"" + many("\\x41", 200) + "\"", "200 .");
        gives("*'" + many("a", 200) + "'", "1 .");
        wrong("\"" + many("a", 201) + "\"", 1, 201);
        wrong("'" + many("a", 201) + "'", 1, 201);
        wrong("\"" + many("\\n", 200) + "b\"", 1, 401);
        wrong("\"" + many("a", 200) + "\\n\"", 1, 201);
        wrong("\"" + many("a", 200) + "\\x41\"", 1, 201);
        wrong("\"" + many("a", 200) + "\\x4\"", 1, 204);
        wrong("\"" + many("a", 200) + "\\z\"", 1, 202);
        wrong("\"" + many("a", 200) + "\t\"", 1, 201);
        fault(HEAD + "\"" + many("a", 200), 1, AT + 201);
        fault(HEAD + "\"" + many("a", 200) + "\\", 1, AT + 202);
    }

    private static void keys() {
        String[] keys = {"null", "fail", "subject", "pos", "random", "error", "number", "value", "letters", "digits", "lower", "upper", "all"};
        for (String key : keys) {
            nodes("&" + key, 4);
            nodes("a &" + key + "s", 0, 5, 0);
            nodes("a & " + key + "s", 0, 5, 0);
        }
        // As many letters as there are; if they are none of these & is a SIGN.
        wrong("&pos1", 2, 4);
        wrong("&pos_", 2, 4);
        nodes("a &posPos", 0, 5, 0);
        nodes("a &Pos", 0, 5, 0);
        nodes("a &po", 0, 5, 0);
        nodes("a &1", 0, 5, 1);
        wrong("&", 2, 0);
        wrong("&x", 2, 0);
    }

    private static void signs() {
        String[] between = {"&", "?", ":=", "<-", ":=:", "<->", "|", "<", "<=", "=", ">=", ">", "~=", "<<", "<<=", "==", ">>=", ">>", "~==", "===", "~===",
            "||", "|||", "+", "-", "++", "--", "*", "/", "%", "**", "^", "\\", "!", "+:=", "-:=", "*:=", "/:=", "%:=", "^:=", "++:=", "--:=", "**:=", "||:=", "|||:="};
        for (String sign : between) {
            nodes("a" + sign + "b", 0, 5, 0);
            nodes("a " + sign + " b", 0, 5, 0);
        }
        for (String sign : new String[] {"+", "-", "*", "/", "\\", "!", "?", "@", "^", ".", "~", "=", "|"}) {
            nodes(sign + "a", 5, 0);
            nodes(sign + " a", 5, 0);
        }
        // The longest that there is.
        wrong("a<<<b", 2, 3);
        nodes("a<--b", 0, 5, 5, 0);
        nodes("a---b", 0, 5, 5, 0);
        nodes("a||||b", 0, 5, 5, 0);
        wrong("a|||||b", 2, 4);
        nodes("a~====b", 0, 5, 5, 0);
        nodes("a:=:=b", 0, 5, 5, 0);
        nodes("a:==b", 0, 5, 5, 0);
        nodes("a=-b", 0, 5, 5, 0);
        wrong("a+ :=b", 2, 3);
        wrong("a|| |b||", 2, 8);
        wrong("a===:=b", 2, 4);
        wrong("a<:=b", 2, 2);
        wrong("a&:=b", 2, 2);
        nodes("a[1+:=b]", 0, 7, 1, 5, 0);
        nodes("a[1+:b]", 0, 7, 1, 0);
        nodes("a[1-:b]", 0, 7, 1, 0);
        nodes("a[1:b]", 0, 7, 1, 0);
        nodes("a[b:=c]", 0, 7, 0, 5, 0);
        nodes("a[b: =c]", 0, 7, 0, 5, 0);
        wrong("a[b+ :c]", 2, 5);
    }

    /** Between two words in different lines a ; is read if both are of these. */
    private static void lines() {
        String[] ends = {"a", "1", "\"t\"", "'s'", "&pos", "(a)", "[a]", "{a}", "break", "fail", "next", "return", "suspend"};
        String[] begins = {"b", "1", "\"t\"", "'s'", "&pos", "(b)", "[b]", "{b}", "!b", "~b", "break", "case b of {}", "create b", "every b", "fail",
            "if b then b", "next", "not b", "repeat b", "return", "suspend", "until b", "while b"};
        for (String e : ends) {
            for (String b : begins) {
                for (String between : new String[] {"\n", " # note\n", "\n\n # more\n "}) {
                    GoalHouse x = new GoalHouse();
                    due(e + between + b, read(x, HEAD + "repeat { " + e + between + b + " };end"), 0);
                    GoalHouse y = new GoalHouse();
                    due(e + ";" + b, read(y, HEAD + "repeat { " + e + ";" + b + " };end"), 0);
                    due(e + between + b + " as with ;", written(x, 0), written(y, 0));
                }
            }
        }
        // None in front of others, nor in the same line.
        for (String sign : new String[] {"+", "-", "*", "/", "\\", "?", "^", "=", "|", "&"}) {
            nodes("a\n" + sign + "b", 0, 5, 0);
        }
        nodes("a\n.b", 0, 8);
        nodes("@\nb", 5, 0);
        wrong("a\n@b", 2, 2);
        wrong("a\r1", 2, 2);
        nodes("a +\nb", 0, 5, 0);
        nodes("if a\nthen b\nelse c", 12, 0, 0, 0);
        nodes("every a\ndo b", 12, 0, 0);
        nodes("1\nto 2\nby 3", 1, 5, 1, 1);
        nodes("case a\nof { 1 : 2\ndefault : 3 }", 12, 0, 1, 1, 1);
        nodes("case a of\n{\n1\n:\n2\n}", 12, 0, 1, 1);
        nodes("repeat\nbreak\na", 12, 12, 0);
        nodes("f(a,\nb)", 0, 6, 0, 0);
        nodes("create\na", 12, 0);
        nodes("a\n(b)", 0, 0);
        nodes("a\n[b]", 0, 9, 0);
        nodes("a\n{b}", 0, 10, 0);
        nodes("a(\nb\n)", 0, 6, 0);
        // Its place is the second one's.
        wrong("(a\nb)", 2, 3);
        wrong("(a # x\n b)", 2, 8);
        wrong("f(a\n~b)", 2, 4);
        wrong("if a\nb", 2, 5);
        fault("procedure main()\na end", 0, 0);
        fault("procedure main();a\nend", 0, 0);
        fault("global a\nglobal b\nrecord r()\nprocedure f()\nlocal a\nstatic b\ninitial c\nd\nend\nprocedure main();end\nglobal z", 0, 0);
        fault("global a\n,b", 0, 0);
        fault("global\na", 0, 0);
        fault("global a,\nb", 0, 0);
        fault("record\nr(\na\n)", 0, 0);
        fault("record\nr\n(\na\n)", 2, 9);
        fault("record r\n(a)", 2, 9);
    }

    public static void main(String[] args) {
        blanks();
        names();
        numbers();
        texts();
        keys();
        signs();
        lines();
        end();
    }
}
