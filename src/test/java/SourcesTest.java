/** Section 2 of the document: SOURCES, FAULTS 2 to 5, NODES, WRITTEN; promises 1 to 11. */
public final class SourcesTest extends Check {
    private static final String HEAD = "procedure main(); ";
    private static final int AT = HEAD.length();

    private SourcesTest() {
    }

    private static void fine(String body) {
        fault(HEAD + body + ";end", 0, 0);
    }

    private static void wrong(String body, int number, int at) {
        fault(HEAD + body + ";end", number, AT + at);
    }

    // ---- a word can't stand there

    private static void items() {
        fault("", 0, 0);
        fault(";;;", 0, 0);
        fault("global a", 0, 0);
        fault(";global a;;record r();", 0, 0);
        fault("global a record r()", 2, 9);
        fault("a", 2, 0);
        fault("end", 2, 0);
        fault("local a", 2, 0);
        fault("global", 2, 6);
        fault("global ;", 2, 7);
        fault("global a b", 2, 9);
        fault("global a,", 2, 9);
        fault("global a,,b", 2, 9);
        fault("global 1", 2, 7);
        fault("record", 2, 6);
        fault("record r", 2, 8);
        fault("record r(", 2, 9);
        fault("record r()", 0, 0);
        fault("record r(a", 2, 10);
        fault("record r(a,)", 2, 11);
        fault("record r(,a)", 2, 9);
        fault("record r(a[])", 2, 10);
        fault("record (a)", 2, 7);
        fault("record r();end", 2, 11);
        fault("procedure", 2, 9);
        fault("procedure f", 2, 11);
        fault("procedure f(", 2, 12);
        fault("procedure f()", 2, 13);
        fault("procedure f() end", 2, 14);
        fault("procedure f();", 2, 14);
        fault("procedure f();end", 0, 0);
        fault("procedure f();;;end", 0, 0);
        fault("procedure f();end end", 2, 18);
        fault("procedure f();end procedure g();end", 2, 18);
        fault("procedure f();end;procedure g();end", 0, 0);
        fault("procedure f();end\nprocedure g();end", 0, 0);
        fault("procedure f(a, b[]);end", 0, 0);
        fault("procedure f(a[]);end", 0, 0);
        fault("procedure f(a[1]);end", 2, 14);
        fault("procedure f(a[);end", 2, 14);
        fault("procedure f(a[] b);end", 2, 16);
        fault("procedure f(a[], b);end", 2, 15);
        fault("procedure f([]);end", 2, 12);
        fault("procedure f(a,[]);end", 2, 14);
        fault("procedure f(a,);end", 2, 14);
        // Parts: local and static in any order, then perhaps initial.
        fault("procedure f();static a;local b;static c;local d, e;initial a;b;end", 0, 0);
        fault("procedure f();local a end", 2, 22);
        fault("procedure f();local a", 2, 21);
        fault("procedure f();local;end", 2, 19);
        fault("procedure f();initial a;local b;end", 2, 24);
        fault("procedure f();initial a;initial b;end", 2, 24);
        fault("procedure f();a;local b;end", 2, 16);
        fault("procedure f();a;initial b;end", 2, 16);
        fault("procedure f();initial ;end", 2, 22);
        fault("procedure f();initial a end", 2, 24);
        fault("procedure f();initial a;end", 0, 0);
        fault("procedure f();a end", 0, 0);
        fault("procedure f();a;;;b;;end", 0, 0);
        fault("procedure f();a b;end", 2, 16);
        fault("procedure f();a, b;end", 2, 15);
        fault("procedure f();global b;end", 2, 14);
        fault("procedure f();a", 2, 15);
        fault("procedure f();a;", 2, 16);
    }

    private static void expressions() {
        wrong("+", 2, 1);
        wrong("a +", 2, 3);
        wrong("a + * ", 2, 6);
        wrong("a < > b", 2, 4);
        wrong("a := ", 2, 5);
        wrong("()()", 0, 0);
        wrong("(a; b)", 2, 2);
        wrong("(a", 2, 2);
        wrong("a)", 2, 1);
        wrong("[a", 2, 2);
        wrong("[a;b]", 2, 2);
        wrong("[a)", 2, 2);
        wrong("{a", 2, 3);
        wrong("{a)", 2, 2);
        wrong("{a,b}", 2, 2);
        wrong("f(a b)", 2, 4);
        wrong("f(a]", 2, 3);
        wrong("x[]", 2, 2);
        wrong("x[,]", 2, 2);
        wrong("x[a,b]", 2, 3);
        wrong("x[:a]", 2, 2);
        wrong("x[a:]", 2, 4);
        wrong("x[a:b:c]", 2, 5);
        wrong("x[a+:]", 2, 5);
        wrong("x[a", 2, 3);
        wrong("x.", 2, 2);
        wrong("x.1", 2, 2);
        wrong("x.end", 2, 2);
        wrong("x.(a)", 2, 2);
        wrong("a to", 2, 4);
        wrong("a by b", 2, 2);
        wrong("a to b by", 2, 9);
        wrong("a to b by c by d", 2, 12);
        wrong("a to b to c by d", 0, 0);
        wrong("(a) by b", 2, 4);
        wrong("1 to x := 2 by 3", 2, 12);
        wrong("a to b & c by d", 2, 11);
        wrong("a ? b by d", 2, 6);
        wrong("1 to if a by 2", 2, 10);
        wrong("1 to case a by 2", 2, 12);
        wrong("1 to case a of { b by 2 : 3 }", 2, 19);
        wrong("1 to case a of { b : c by 2 }", 2, 23);
        wrong("1 to (a by 2)", 2, 8);
        wrong("1 to [a by 2]", 2, 8);
        wrong("1 to f(a by 2)", 2, 9);
        wrong("1 to f[a by 2]", 2, 9);
        wrong("1 to f[a : b by 2]", 2, 13);
        wrong("1 to { a by 2 }", 2, 9);
        wrong("if 1 to a then b by 2", 2, 17);
        wrong("while 1 to a do b by 2", 2, 18);
        wrong("then", 2, 0);
        wrong("if a", 2, 4);
        wrong("if then a", 2, 3);
        wrong("if a then", 2, 9);
        wrong("if a else b", 2, 5);
        wrong("if a then b else", 2, 16);
        wrong("if a then b else c else d", 2, 19);
        wrong("while", 2, 5);
        wrong("while a do", 2, 10);
        wrong("while a do b do c", 2, 13);
        wrong("until a then b", 2, 8);
        wrong("every do a", 2, 6);
        wrong("repeat", 2, 6);
        wrong("repeat a do b", 2, 9);
        wrong("case", 2, 4);
        wrong("case a", 2, 6);
        wrong("case a {", 2, 7);
        wrong("case a of b", 2, 10);
        wrong("case a of", 2, 9);
        wrong("case a of { b }", 2, 14);
        wrong("case a of { b : }", 2, 16);
        wrong("case a of { : b }", 2, 12);
        wrong("case a of { b : c, d : e }", 2, 17);
        wrong("case a of { b : c d : e }", 2, 18);
        wrong("case a of { default b }", 2, 20);
        wrong("case a of { default : }", 2, 22);
        wrong("default : a", 2, 0);
        wrong("create", 2, 6);
        wrong("not", 2, 3);
        wrong("fail a", 2, 5);
        wrong("repeat next a", 2, 12);
        wrong("return then", 2, 7);
        wrong("return a do b", 2, 9);
        wrong("suspend a do", 2, 12);
        wrong("suspend a do b do c", 2, 15);
        wrong("a of b", 2, 2);
        wrong("of", 2, 0);
        wrong("do", 2, 0);
        wrong("to", 2, 0);
        wrong("record", 2, 0);
        wrong("procedure", 2, 0);
        wrong("global", 2, 0);
        wrong("}", 2, 0);
        wrong(",", 2, 0);
        wrong(":", 2, 0);
        wrong("a : b", 2, 2);
        fine("case a of { }");
        fine("case a of { ;; b : c;; default : d ;; e : f; }");
        fine("f(,,) | f() | [,] | [] | f(a,) | f(,a)");
        fine("{ ;; } | { } | {; a ;; b ;} | ()");
        fine("a.b.c(d)[e][f:g].h");
        wrong("a.b{ }", 2, 3);
    }

    // ---- 3 there already

    private static void twice() {
        fault("global a, a", 3, 10);
        fault("global a;global a", 3, 16);
        fault("global a;record a()", 3, 16);
        fault("global a;procedure a();end", 3, 19);
        fault("record a();global a", 3, 18);
        fault("record a();record a()", 3, 18);
        fault("record a();procedure a();end", 3, 21);
        fault("procedure a();end;global a", 3, 25);
        fault("procedure a();end;record a()", 3, 25);
        fault("procedure a();end;procedure a();end", 3, 28);
        fault("global write, main, list", 0, 0);
        fault("record write(write)", 0, 0);
        fault("global a;record r(a, r);procedure f(a, r, f);local write;end", 0, 0);
        fault("record r(a, b, a)", 3, 15);
        fault("procedure f(a, a);end", 3, 15);
        fault("procedure f(a, a[]);end", 3, 15);
        fault("procedure f(a);local a;end", 3, 21);
        fault("procedure f(a);static a;end", 3, 22);
        fault("procedure f();local a, a;end", 3, 23);
        fault("procedure f();local a;static a;end", 3, 29);
        fault("procedure f();static a;local a;end", 3, 29);
        fault("procedure f();static a, a;end", 3, 24);
        fault("procedure f(a);end;procedure g(a);local f;end", 0, 0);
        wrong("case a of { default : 1; default : 2 }", 3, 25);
        wrong("case a of { default : 1; 2 : 3; default : 2 }", 3, 32);
        fine("case a of { default : case b of { default : 1 }; 2 : 3 }");
        fine("case a of { 1 : case b of { default : 1 }; default : 3 }");
        // The least of several at one word.
        fault("procedure f();case a of { default : 1; default default", 3, 39);
        wrong("case a of { default : default : 2 }", 2, 22);
    }

    // ---- 4 too many

    private static String procedures(int n) {
        StringBuilder b = new StringBuilder();
        for (int i = 0; i < n; i++) {
            b.append("procedure p").append(i).append("();end;");
        }
        return b.toString();
    }

    private static String records(int n) {
        StringBuilder b = new StringBuilder();
        for (int i = 0; i < n; i++) {
            b.append("record r").append(i).append("();");
        }
        return b.toString();
    }

    private static void tooMany() {
        String p = procedures(40);
        fault(p, 0, 0);
        fault(p + "procedure q();end", 4, p.length() + 10);
        fault(p + "procedure q(", 4, p.length() + 10);
        fault(p + "procedure p3();end", 3, p.length() + 10);
        fault(p + "global q;record r()", 0, 0);
        String r = records(20);
        fault(r, 0, 0);
        fault(r + "record q()", 4, r.length() + 7);
        fault(r + "record r3()", 3, r.length() + 7);
        fault(r + "global q;procedure f();end", 0, 0);
        String g = "global " + names("g", 60);
        fault(g, 0, 0);
        fault(g + ",h", 4, g.length() + 1);
        fault(g + ",g3", 3, g.length() + 1);
        fault(g + ";global h", 4, g.length() + 8);
        fault(g + ";record h();procedure k();end", 0, 0);
        String f = "record r(" + names("f", 8);
        fault(f + ")", 0, 0);
        fault(f + ",h)", 4, f.length() + 1);
        fault(f + ",f0)", 3, f.length() + 1);
        fault(f + ");" + f.replace("record r", "record s") + ")", 0, 0);
        String l = "procedure f(" + names("a", 30);
        fault(l + ");end", 0, 0);
        fault(l + "[]);end", 0, 0);
        fault(l + ",b);end", 4, l.length() + 1);
        fault(l + ",a7);end", 3, l.length() + 1);
        fault(l + ");local b;end", 4, l.length() + 8);
        fault(l + ");static b;end", 4, l.length() + 9);
        String m = "procedure f(" + names("a", 10) + ");local " + names("b", 10) + ";static " + names("c", 10);
        fault(m + ";end", 0, 0);
        fault(m + ",d;end", 4, m.length() + 1);
        fault(m + ";local b7;end", 3, m.length() + 7);
        fault(m + ";end;" + m.replace("procedure f", "procedure g") + ";end", 0, 0);
    }

    private static void manyNodes() {
        fault(HEAD + many("a;", 1500) + "end", 0, 0);
        fault(HEAD + many("a;", 1501) + "end", 4, AT + 3000);
        fault(HEAD + many("a;", 1499) + "b+c;end", 4, AT + 2 * 1499 + 1);
        fault(HEAD + many("a;", 1499) + "b.c;end", 4, AT + 2 * 1499 + 1);
        fault(HEAD + many("a;", 1499) + "b[c];end", 4, AT + 2 * 1499 + 1);
        fault(HEAD + many("a;", 1499) + "b(c);end", 4, AT + 2 * 1499 + 1);
        fault(HEAD + many("a;", 1500) + "();end", 4, AT + 3000);
        fault(HEAD + many("a;", 1500) + "[];end", 4, AT + 3000);
        fault(HEAD + many("a;", 1500) + "{};end", 4, AT + 3000);
        fault(HEAD + many("a;", 1500) + "~b;end", 4, AT + 3000);
        fault(HEAD + many("a;", 1500) + "repeat b;end", 4, AT + 3000);
        fault(HEAD + many("a;", 1500) + "fail;end", 4, AT + 3000);
        fault(HEAD + many("a;", 1500) + "break;end", 4, AT + 3000);
        fault(HEAD + many("a;", 1500) + "\"t\";end", 4, AT + 3000);
        fault(HEAD + many("a;", 1499) + "(b);end", 0, 0);
        fault(HEAD + many("a;", 1500) + "(b);end", 4, AT + 3001);
        fault(HEAD + many("a;", 1500) + "+;end", 4, AT + 3000);
        fault(HEAD + many("a;", 1500) + "then;end", 2, AT + 3000);
        fault(HEAD + many("a;", 1497) + "b to c by d;end", 4, AT + 2 * 1497 + 10);
        fault(HEAD + many("a;", 1496) + "b to c by d;end", 0, 0);
        String first = HEAD + many("a;", 750) + "end;procedure f();" + many("a;", 750);
        fault(first + "end", 0, 0);
        fault(first + "b;end", 4, first.length());
    }

    // ---- 4 too much that is OPEN

    private static void open() {
        String[] prefixes = {"(", "[", "{", "+", "-", "*", "/", "\\", "!", "?", "@", "^", ".", "~", "=", "|", "not "};
        for (String p : prefixes) {
            String close = p.equals("(") ? ")" : p.equals("[") ? "]" : p.equals("{") ? "}" : "";
            String glue = p + " ";
            fine(many(glue, 60) + "a " + many(close, 60));
            wrong(many(glue, 60) + glue + "a " + many(close, 61), 4, 60 * glue.length());
        }
        String[] words = {"if ", "while ", "until ", "every ", "repeat ", "case ", "create ", "suspend ", "return "};
        for (String w : words) {
            wrong(many("(", 60) + w + "a", 4, 60);
            wrong(many("(", 59) + w + "(a", 4, 59 + w.length());
        }
        wrong(many("(", 60) + "fail", 4, 60);
        wrong(many("(", 60) + "break", 4, 60);
        wrong(many("(", 60) + "next", 4, 60);
        fine(many("(", 59) + "fail" + many(")", 59));
        wrong(many("(", 60) + "&fail" + many(")", 60), 0, 0);
        fine(many("repeat ", 60) + "a");
        wrong(many("repeat ", 61) + "a", 4, 60 * 7);
        wrong(many("repeat ", 60) + "break", 4, 60 * 7);
        fine(many("if a then ", 60) + "b");
        wrong(many("if a then ", 61) + "b", 4, 600);
        fine(many("if a then b else ", 60) + "b");
        wrong(many("if a then b else ", 61) + "b", 4, 60 * 17);
        fine(many("if a then b;", 100));
        // One of rank 3 or 10 up to the end of its right side.
        for (String op : new String[] {":=", "<-", ":=:", "<->", "+:=", "|||:=", "^"}) {
            fine(many("a" + op, 60) + "b");
            wrong(many("a" + op, 61) + "b", 4, 60 * (1 + op.length()) + 1);
        }
        for (String op : new String[] {"&", "?", "|", "<", "||", "+", "*", "\\", "!", " to "}) {
            fine(many("a" + op, 100) + "b");
        }
        // a is over when what stands behind it is not of its right side.
        fine(many("a:=b&", 100) + "c");
        fine(many("a^b*", 100) + "c");
        fine(many("-a+", 100) + "b");
        fine(many("(a)+", 100) + "b");
        fine(many("f(a)+", 100) + "b");
        fine("f" + many("(a)", 100) + many("[b]", 100));
        fine(many("{a};", 100));
        fine(many("a:=b;", 100));
        fine("[" + many("a:=b,", 100) + "c]");
        fine("f(" + many("~a,", 100) + "c)");
        wrong(many("(", 30) + many("a:=", 30) + "~b", 4, 30 + 90);
        fine(many("(", 30) + many("a:=", 30) + "b" + many(")", 30));
        wrong(many("(", 59) + "a^~b", 4, 61);
        wrong(many("(", 59) + "a^b^c", 4, 62);
        fine(many("(", 59) + "a^b:=c" + many(")", 59));
        wrong(many("(", 59) + "a:=b:=c", 4, 63);
        fine(many("(", 59) + "a:=b&c:=d" + many(")", 59));
        wrong(many("(", 60) + "f(", 4, 61);
        wrong(many("(", 60) + "f[", 4, 61);
        fine(many("(", 59) + "f(a)(b)[c]" + many(")", 59));
        fine(many("f(", 60) + "a" + many(")", 60));
        wrong(many("f(", 61) + "a" + many(")", 61), 4, 121);
        fine(many("a[", 60) + "a" + many("]", 60));
        wrong(many("a[", 61) + "a" + many("]", 61), 4, 121);
        fine(many("a[1:", 60) + "a" + many("]", 60));
        // A case and its { are two.
        fine(many("case a of { 1 : ", 30) + "b" + many("}", 30));
        wrong(many("case a of { 1 : ", 31) + "b" + many("}", 31), 4, 30 * 16);
        fine(many("(case a of { }) + ", 70) + "1");
        fine(many("(case a of { 1 : 2 }) + ", 70) + "1");
        fine(many("(case a of { 1 : 2; }) + ", 70) + "1");
        fine(many("(case a of { default : 2 }) + ", 70) + "1");
        fine(many("(if a then b) + (while a do b) + (create c) + [d] + { e } + f(g) + h[i] + ", 40) + "1");
        fine(many("case a of { };", 100));
        fine(many("case a of { 1 : 2 };", 80));
        fine(many("case a of { 1 : 2; };", 80));
        fine(many("case a of { default : 2 };", 80));
        fine(many("(", 58) + "case a of {}" + many(")", 58));
        wrong(many("(", 59) + "case a of {}" + many(")", 59), 4, 59 + 10);
        // What is closed is not OPEN any more, and nothing else is closed with it.
        String[] closed = {"(a)", "()", "[a]", "[]", "{ a }", "{ }", "{ a; }", "{ a; b }", "f(a)", "f()", "f(,)", "a[b]", "a[b : c]", "a.b", "-a", "not a", "(a ^ b)", "a ^ b", "(a := b)", "(case a of { })", "(case a of { 1 : 2 })",
            "(case a of { 1 : 2; })", "(case a of { ; default : 2 })", "(case a of { 1 : 2; 3 : -4 })", "(if a then b)", "(if a then b else c)", "(while a)", "(until a do b)", "(every a do b)", "(repeat a)", "(repeat break)", "(repeat break a)",
            "(repeat next)", "(create a)", "(return)", "(return a)", "(suspend)", "(suspend a)", "(suspend a do b)", "(fail)"};
        for (String c : closed) {
            fine(c + " + " + many("(", 60) + "1" + many(")", 60));
            wrong(c + " + " + many("(", 61) + "1" + many(")", 61), 4, c.length() + 3 + 60);
            fine("[" + c + ", " + many("(", 59) + "1" + many(")", 59) + "]");
            wrong("[" + c + ", " + many("(", 60) + "1" + many(")", 60) + "]", 4, c.length() + 3 + 59);
        }
        // The least of several at one word.
        fine(many("(", 60) + many(")", 60));
        wrong(many("(", 60) + "a(", 4, 61);
        wrong(many("[", 60) + "a;", 2, 61);
        wrong(many("(", 60) + "a then", 2, 62);
        fault("procedure f(a[]);end;procedure g(b[]);" + many("(", 60) + "1" + many(")", 60) + ";end", 0, 0);
    }

    // ---- 5 out of place

    private static void outOfPlace() {
        wrong("break", 5, 0);
        wrong("next", 5, 0);
        fine("repeat break");
        fine("repeat next");
        fine("repeat { if a then break b else next }");
        fine("while a do break");
        fine("until a do next");
        fine("every a do break");
        wrong("while break do a", 5, 6);
        wrong("until next do a", 5, 6);
        wrong("every break", 5, 6);
        fine("repeat while break do a");
        fine("repeat every next do a");
        wrong("repeat a; break", 5, 10);
        wrong("(repeat a) + break", 5, 13);
        wrong("while a do b; next", 5, 14);
        wrong("suspend a do break", 5, 13);
        wrong("if a then break", 5, 10);
        wrong("case a of { 1 : next }", 5, 16);
        // What create has is outside of all loops around it, what break has of the innermost one.
        wrong("repeat create break", 5, 14);
        wrong("repeat { create { a; next } }", 5, 21);
        fine("repeat create repeat break");
        wrong("repeat break break", 5, 13);
        wrong("repeat break next", 5, 13);
        fine("repeat repeat break break");
        fine("repeat repeat break next");
        wrong("repeat repeat break break break", 5, 26);
        fine("repeat break repeat break");
        wrong("repeat repeat create break", 5, 21);
        wrong("repeat break create break", 5, 20);
        fine("every a do repeat break { next }");
        fine("repeat { break a; break b }");
        fine("return a");
        fine("create repeat a");
        wrong("create return", 5, 7);
        wrong("create { suspend a }", 5, 9);
        wrong("create fail", 5, 7);
        fine("return create a");
        fine("create a; return b");
        fine("create { a; b }; suspend c; fail");
        fine("(create a) + (create b); return c");
        wrong("(a); (b); [c]; create return", 5, 22);
        wrong("f(a, b); create { c; fail }", 5, 21);
        wrong("create create a; create return", 5, 24);
        fine("suspend create a do create b");
        wrong("suspend create suspend", 5, 15);
        fault("procedure f();initial return;end", 5, 22);
        fault("procedure f();initial { suspend a };end", 5, 24);
        fault("procedure f();initial fail;end", 5, 22);
        fault("procedure f();initial create fail;end", 5, 29);
        fault("procedure f();initial repeat break;fail;end", 0, 0);
        fault("procedure f();initial break;end", 5, 22);
        fault("procedure f();initial a;return;end", 0, 0);
        goalFault("return", 5, 0);
        goalFault("1 + (suspend 2)", 5, 5);
        goalFault("if 1 then fail", 5, 10);
        goalFault("break", 5, 0);
        gives("repeat break 7", "7 .");
    }

    // ---- own NAMES, found at the end

    private static String uses(String stem, int n) {
        return names(stem, n).replace(",", ";") + ";";
    }

    private static void ownNames() {
        String f = "procedure f();" + uses("a", 60);
        fault(f + "end", 0, 0);
        fault(f + "a7;write;f;end", 0, 0);
        fault(f + "b;end", 4, 10);
        fault(f + "b;end;global b", 0, 0);
        fault(f + "b;end;record b()", 0, 0);
        fault(f + "b;end;procedure b();end", 0, 0);
        fault(f + "x.b;end", 4, 10);
        String g = "procedure f();" + uses("a", 59) + "x.b;x.c;x.d;end";
        fault(g, 0, 0);
        fault("procedure g();end;" + f + "b;end", 4, 28);
        fault(f + "b;end;" + f.replace("f()", "g()") + "b;end", 4, 10);
        fault(f + "b;end;$", 1, f.length() + 6);
        fault(f + "b;end;global", 2, f.length() + 12);
        fault("procedure f(" + names("p", 30) + ");" + uses("a", 30) + "end", 0, 0);
        fault("procedure f(" + names("p", 30) + ");" + uses("a", 31) + "end", 4, 10);
        fault("procedure f();static " + names("s", 30) + ";" + uses("a", 30) + "end", 0, 0);
        fault("procedure f();static " + names("s", 30) + ";" + uses("a", 31) + "end", 4, 10);
        fault("procedure f();initial b;" + uses("a", 60) + "end", 4, 10);
        fault("procedure f();create { " + uses("a", 61) + " };end", 4, 10);
        String goal = names("a", 60).replace(",", "|");
        GoalHouse x = body("");
        feed(x, goal);
        due("a goal with 60 NAMES", x.goal(0), 60);
        feed(x, goal + "|a3|main|write|b");
        due("a goal with 61", x.goal(0), -10 - (goal.length() + 15));
        due("its fault", x.fault(0), 4);
        due("its place", x.fault(1), goal.length() + 15);
        GoalHouse y = new GoalHouse();
        read(y, "global g;procedure f(a, b);local c;static d;e := a + g + write + f + r + h;x.i;end;record r();global h");
        due("the list", y.part(0, 0, 0), 2);
        due("locals", y.part(0, 0, 1), 5);
        due("statics", y.part(0, 0, 2), 1);
    }

    // ---- nodes

    private static void nodes() {
        String source = "procedure f(a[]);initial -a;if not a then {b};end;procedure main();\nf(1,)[2:3].c := [\"t\", 's', &null, ()];1 to 2 by 3;create (x);end";
        GoalHouse x = new GoalHouse();
        read(x, source);
        String[] words = {"-", "a;", "if", "not", "a t", "{", "b", "f(1", "(1", "1", "[2", "2", "3", ".c", ":=", "[\"", "\"t", "'s", "&n", "()", "1 to", "to", "2 by", "3;", "create", "x)"};
        int[] kinds = {5, 0, 12, 5, 0, 10, 0, 0, 6, 1, 7, 1, 1, 8, 5, 9, 2, 3, 4, 11, 1, 5, 1, 1, 12, 0};
        due("nodes", x.count(0, 3), words.length);
        int at = 0;
        for (int i = 0; i < words.length; i++) {
            at = source.indexOf(words[i], i == 0 ? source.indexOf("initial") + 7 : at);
            due("place of node " + i, x.node(0, i, 0), at);
            due("procedure of node " + i, x.node(0, i, 1), i < 7 ? 0 : 1);
            due("kind of node " + i, x.node(0, i, 2), kinds[i]);
            at++;
        }
        due("node -1", x.node(0, -1, 0), -1);
        due("a node behind the last one", x.node(0, words.length, 0), -1);
        due("node's 3", x.node(0, 0, 3), -1);
        due("node's -1", x.node(0, 0, -1), -1);
        due("a node of no program", x.node(1, 0, 0), -1);
        due("a node of program -1", x.node(-1, 0, 0), -1);
        due("a node of program 4", x.node(4, 0, 0), -1);
    }

    // ---- WRITTEN

    private static void ranks() {
        writtenAs("a & b & c", "(a & b) & c");
        writtenAs("a ? b ? c & d", "((a ? b) ? c) & d");
        writtenAs("a ? b := c", "a ? (b := c)");
        writtenAs("a := b <- c :=: d <-> e +:= f", "a := (b <- (c :=: (d <-> (e +:= f))))");
        writtenAs("a := b ? c", "(a := b) ? c");
        writtenAs("a := b to c", "a := (b to c)");
        writtenAs("a to b to c", "(a to b) to c");
        writtenAs("a | b to c | d", "(a | b) to (c | d)");
        writtenAs("a to b by c | d", "a to b by (c | d)");
        writtenAs("a to b := c", "(a to b) := c");
        writtenAs("a < b := c", "(a < b) := c");
        writtenAs("a to b ? c", "(a to b) ? c");
        writtenAs("a to b | c by d", "a to (b | c) by d");
        writtenAs("a to b + c by d * e", "a to (b + c) by (d * e)");
        writtenAs("a | b to c by d | e", "(a | b) to c by (d | e)");
        writtenAs("1 to 2 by 3 to 4 by 5", "(1 to 2 by 3) to 4 by 5");
        writtenAs("1 to if a then b by 2", "1 to (if a then b) by 2");
        writtenAs("1 to if a then b else c by 2", "1 to (if a then b else c) by 2");
        writtenAs("1 to while a do b by 2", "1 to (while a do b) by 2");
        writtenAs("1 to while a by 2", "1 to (while a) by 2");
        writtenAs("1 to every a by 2", "1 to (every a) by 2");
        writtenAs("1 to repeat a by 2", "1 to (repeat a) by 2");
        writtenAs("1 to create a by 2", "1 to (create a) by 2");
        writtenAs("1 to create a & b by 2", "1 to (create a & b) by 2");
        writtenAs("1 to create a to b by 2", "1 to (create a to b by 2)");
        writtenAs("1 to create a to b by 2 by 3", "1 to (create a to b by 2) by 3");
        writtenAs("1 to not a by 2", "1 to (not a) by 2");
        writtenAs("1 to -a by -2", "1 to (-a) by (-2)");
        writtenAs("1 to return by 2", "1 to (return) by 2");
        writtenAs("1 to return a by 2", "1 to (return a) by 2");
        writtenAs("1 to fail by 2", "1 to (fail) by 2");
        writtenAs("1 to suspend a do b by 2", "1 to (suspend a do b) by 2");
        writtenAs("repeat 1 to break by 2", "repeat 1 to (break) by 2");
        writtenAs("1 to case a of { b : c to d by e } by 2", "1 to (case a of { b : c to d by e }) by 2");
        writtenAs("1 to f(a to b by c)[d to e by f] by 2", "1 to f(a to b by c)[d to e by f] by 2");
        writtenAs("if 1 to 2 by 3 then 1 to 2 by 3 else 1 to 2 by 3", "if 1 to 2 by 3 then 1 to 2 by 3 else 1 to 2 by 3");
        writtenAs("a \\ b ^ c", "(a \\ b) ^ c");
        writtenAs("a ! b ^ c \\ d ^ e", "(a ! b) ^ ((c \\ d) ^ e)");
        writtenAs("a * b + c", "(a * b) + c");
        writtenAs("a + b || c", "(a + b) || c");
        writtenAs("a || b < c", "(a || b) < c");
        writtenAs("a < b | c", "(a < b) | c");
        writtenAs("a ^ b * c", "(a ^ b) * c");
        writtenAs("-a ^ b", "(-a) ^ b");
        writtenAs("-a \\ b", "(-a) \\ b");
        writtenAs("a | b | c", "(a | b) | c");
        writtenAs("a | b < c", "a | (b < c)");
        writtenAs("a < b == c", "(a < b) == c");
        writtenAs("a < b || c", "a < (b || c)");
        writtenAs("a || b ||| c", "(a || b) ||| c");
        writtenAs("a || b + c", "a || (b + c)");
        writtenAs("a + b -- c", "(a + b) -- c");
        writtenAs("a - b * c", "a - (b * c)");
        writtenAs("a * b / c", "(a * b) / c");
        writtenAs("a * b ^ c", "a * (b ^ c)");
        writtenAs("a ^ b ^ c", "a ^ (b ^ c)");
        writtenAs("a ^ b \\ c", "a ^ (b \\ c)");
        writtenAs("a \\ b ! c", "(a \\ b) ! c");
        writtenAs("a ! ~b", "a ! (~b)");
        writtenAs("~-not a", "~(-(not a))");
        writtenAs("-a.b", "-a.b");
        writtenAs("(-a).b", "(-a).b");
        writtenAs("-a(b)[c]", "-a(b)[c]");
        writtenAs("not a(b)", "not a(b)");
        writtenAs("not not a", "not (not a)");
        writtenAs("not (a & b)", "not (a & b)");
        writtenAs("((a))", "a");
        writtenAs("(a)(b)", "a(b)");
        writtenAs("(a to b)[c : d]", "(a to b)[c : d]");
        writtenAs("a[b & c]", "a[b & c]");
        writtenAs("a[if b then c : d]", "a[if b then c : d]");
        writtenAs("a[b-:c]", "a[b -: c]");
        writtenAs("f({a;b})", "f({ a; b })");
        writtenAs("{a}(b)", "{ a }(b)");
        writtenAs("{a}+[b]", "{ a } + [b]");
        writtenAs("[a,b](c)", "[a, b](c)");
        writtenAs("\"f\"(a)", "\"f\"(a)");
        writtenAs("1(a)", "1(a)");
        writtenAs("(create a)(b)", "(create a)(b)");
        writtenAs("(if a then b)[c]", "(if a then b)[c]");
        writtenAs("(return).x", "(return).x");
        writtenAs("a + (if b then c)", "a + (if b then c)");
        writtenAs("a + if b then c + d", "a + (if b then c + d)");
        writtenAs("-if a then b", "-(if a then b)");
        writtenAs("a := create b", "a := (create b)");
        writtenAs("a & fail", "a & (fail)");
        writtenAs("while a do while b do c", "while a do (while b do c)");
        writtenAs("while while a do b", "while (while a do b)");
        writtenAs("if a then b else if c then d", "if a then b else (if c then d)");
        writtenAs("if a := b then c & d", "if a := b then c & d");
        writtenAs("case if a then b of { c & d : return e; default : f }", "case (if a then b) of { c & d : (return e); default : f }");
        writtenAs("case a of {}", "case a of { }");
        writtenAs("create [a,b]", "create [a, b]");
        writtenAs("return (a)", "return a");
        writtenAs("suspend (a) do (b)", "suspend a do b");
        writtenAs("suspend if a then b do c", "suspend (if a then b) do c");
        writtenAs("(suspend if a then b) & c", "(suspend (if a then b)) & c");
        writtenAs("repeat { break; next }", "repeat { break; next }");
        writtenAs("repeat break a + b", "repeat (break a + b)");
        writtenAs("f(return a)", "f(return a)");
        writtenAs("[fail, next_]", "[fail, next_]");
        writtenAs("{ if a then b; c }", "{ if a then b; c }");
        writtenAs("(a)", "a");
        writtenAs("( )", "()");
        writtenAs("f( )", "f()");
        writtenAs("f( () )", "f(())");
        writtenAs("a.b . c", "a.b.c");
        writtenAs(".a.b", ".a.b");
        writtenAs("a . b ( c )", "a.b(c)");
        writtenAs("f(,)", "f(,)");
        writtenAs("f(a,,b)", "f(a,, b)");
        writtenAs("[,a]", "[, a]");
        writtenAs("x[ 1 +: 2 ]", "x[1 +: 2]");
        writtenAs("| a", "|a");
        writtenAs("= a", "=a");
        writtenAs("a = = b", "a = (=b)");
        writtenAs("a | |b", "a | (|b)");
    }

    /** The signs of each rank, from the loosest. */
    private static final String[] RANKS = {"&", "?", ":= <- :=: <-> +:= -:= *:= /:= %:= ^:= ++:= --:= **:= ||:= |||:=", "to", "|",
        "< <= = >= > ~= << <<= == >>= >> ~== === ~===", "|| |||", "+ - ++ --", "* / % **", "^", "\\ !"};

    /** Each sign ahead of and behind each other one, by their ranks. */
    private static void pairs() {
        for (int r = 0; r < RANKS.length; r++) {
            for (String one : RANKS[r].split(" ")) {
                StringBuilder source = new StringBuilder("procedure main();");
                StringBuilder want = new StringBuilder("procedure main();\n");
                for (int q = 0; q < RANKS.length; q++) {
                    for (String other : RANKS[q].split(" ")) {
                        boolean left = r != q ? r > q : r != 2 && r != 9;
                        source.append("a ").append(one).append(" b ").append(other).append(" c;");
                        want.append(left ? "   (a " + one + " b) " + other + " c;\n" : "   a " + one + " (b " + other + " c);\n");
                    }
                }
                GoalHouse x = new GoalHouse();
                due("pairs with " + one, read(x, source + "end"), 0);
                due("pairs with " + one, written(x, 0), want + "end\n");
            }
        }
        String prefixes = "+ - * / \\ ! ? @ ^ . ~ = | not";
        for (String prefix : prefixes.split(" ")) {
            StringBuilder source = new StringBuilder("procedure main();");
            StringBuilder want = new StringBuilder("procedure main();\n");
            String p = prefix.equals("not") ? "not " : prefix;
            for (String rank : RANKS) {
                for (String sign : rank.split(" ")) {
                    source.append(p).append("a ").append(sign).append(" ").append(p).append("b;");
                    want.append("   (").append(p).append("a) ").append(sign).append(" (").append(p).append("b);\n");
                }
            }
            for (String behind : new String[] {"(b)", "[b]", "[b : c]", "[b +: c]", "[b -: c]", ".b"}) {
                source.append(p).append("a").append(behind).append(";");
                want.append("   ").append(p).append("a").append(behind).append(";\n");
            }
            for (String second : prefixes.split(" ")) {
                source.append(p).append(" ").append(second).append(" a;");
                want.append("   ").append(p).append("(").append(second.equals("not") ? "not " : second).append("a);\n");
            }
            GoalHouse x = new GoalHouse();
            due("pairs with " + p, read(x, source + "end"), 0);
            due("pairs with " + p, written(x, 0), want + "end\n");
        }
    }

    private static void literals() {
        writtenAs("000", "0");
        writtenAs("00120", "120");
        writtenAs("2r0101", "5");
        writtenAs("36rZz", "1295");
        writtenAs(many("0", 60), "0");
        writtenAs(many("9", 60), many("9", 60));
        writtenAs("\"\"", "\"\"");
        writtenAs("\"a'b\\\"c\\\\d\\'e\"", "\"a'b\\\"c\\\\d'e\"");
        writtenAs("'a\"b\\'c\\\\'", "'\"\\'\\\\abc'");
        writtenAs("\"\\n\\t\\x0a\\x09\\x0D\\x7f\\x80\\x1F\\x20\\x7E\"", "\"\\n\\t\\n\\t\\x0d\\x7f\\x80\\x1f ~\"");
        writtenAs("'\\xff\\x00\\x0azz a'", "'\\x00\\n az\\xff'");
        writtenAs("&null+&letters", "&null + &letters");
        writtenAs("a\t+\n\n# x\n b", "a + b");
    }

    private static void lines() {
        String[] sources = {
            "", "",
            ";;", "",
            "global  a ,b", "global a, b;\n",
            "global a;global b", "global a;\nglobal b;\n",
            "record r ( )", "record r();\n",
            "record r ( a,b )", "record r(a, b);\n",
            "procedure f ( ) ;end", "procedure f();\nend\n",
            "procedure f ( a , b [ ] ) ;end;;", "procedure f(a, b[]);\nend\n",
            "procedure f();local a;end", "procedure f();\n   local a;\nend\n",
            "procedure f();static b;local a;static c;local d,e;initial a+b*c;;g;;h end",
            "procedure f();\n   local a, d, e;\n   static b, c;\n   initial a + (b * c);\n   g;\n   h;\nend\n",
            "procedure f(a);initial if a then b;if c then d;end", "procedure f(a);\n   initial if a then b;\n   if c then d;\nend\n",
            "procedure g();end;record r(a);procedure f();end;global z", "procedure g();\nend\nrecord r(a);\nprocedure f();\nend\nglobal z;\n",
        };
        for (int i = 0; i < sources.length; i += 2) {
            GoalHouse x = new GoalHouse();
            due("source " + sources[i], read(x, sources[i]), 0);
            due("written " + sources[i], written(x, 0), sources[i + 1]);
            due("bytes of " + sources[i], x.count(0, 4), sources[i + 1].length());
            due("a byte behind", x.written(0, sources[i + 1].length()), -1);
            due("a byte ahead", x.written(0, -1), -1);
        }
        String long_ = "procedure f(a, b[]); local c; static d; initial { a; b }; every a := !b do { if c then break -d ^ 2 else next };"
                + "case a of { 1 | 2 : [b, , c]; default : a(1,)[2 : 3].x }; suspend a \\ 3 do b; return create a ? tab(0); end";
        GoalHouse x = new GoalHouse();
        read(x, long_);
        GoalHouse y = new GoalHouse();
        read(y, written(x, 0));
        due("read again it is written so", written(y, 0), written(x, 0));
        due("read again it has as many nodes", y.count(0, 3), x.count(0, 3));
        for (int i = 0; i < x.count(0, 3); i++) {
            due("read again node " + i, y.node(0, i, 2), x.node(0, i, 2));
        }
    }

    // ---- promises 1 to 10

    private static void calls() {
        GoalHouse x = new GoalHouse();
        for (int what = 0; what < 5; what++) {
            for (int p = -1; p < 5; p++) {
                due("count of no program", x.count(p, what), -1);
                due("part of no program", x.part(p, 0, what), -1);
                due("name of no program", x.name(p, what, 0, 0), -1);
            }
        }
        for (int p = -1; p < 5; p++) {
            due("drop of none", x.drop(p), -1);
            due("written of none", x.written(p, 0), -1);
            due("run of none", x.run(p, 0), -1);
        }
        due("fault(-1)", x.fault(-1), -1);
        due("fault(2)", x.fault(2), -1);
        due("fault(0)", x.fault(0), 0);
        due("fault(1)", x.fault(1), -2);
        due("cut(1) of an empty tape", x.cut(1), -1);
        due("cut(0)", x.cut(0), 0);
        due("feed", x.feed('p' << 24 | 'r' << 16 | 'o' << 8 | 'c', 'e' << 24 | 'd' << 16 | 'u' << 8 | 'r', 'e' << 24 | ' ' << 16 | 'f' << 8 | '(', ')' << 24 | ';' << 16 | 'e' << 8 | 'n', 'd' << 24 | 255), 20);
        due("cut(21)", x.cut(21), -1);
        due("cut(min)", x.cut(Integer.MIN_VALUE), -1);
        due("cut(max)", x.cut(Integer.MAX_VALUE), -1);
        due("cut(3)", x.cut(3), 17);
        due("source", x.source(), 0);
        due("the tape is empty", x.cut(1), -1);
        due("an empty source", x.source(), 1);
        due("nothing of it", x.count(1, 0) + x.count(1, 1) + x.count(1, 2) + x.count(1, 3) + x.count(1, 4), 0);
        feed(x, "global");
        due("a fault's answer", x.source(), -16);
        due("the tape is empty behind a fault", x.cut(1), -1);
        due("fault(0) of it", x.fault(0), 2);
        due("fault(1) of it", x.fault(1), 6);
        feed(x, "$");
        due("a fault at 0", x.source(), -10);
        due("fault(1) at 0", x.fault(1), 0);
        due("the fault took no number", x.source(), 2);
        due("no fault now", x.fault(0), 0);
        due("no place now", x.fault(1), -2);
        due("the last number", x.source(), 3);
        feed(x, "$");
        due("full", x.source(), -3);
        due("fault is of the one before", x.fault(0), 0);
        due("the tape stays", x.cut(0), 1);
        due("drop(1)", x.drop(1), 0);
        due("drop(1) again", x.drop(1), -1);
        due("a fault when one is free", x.source(), -10);
        due("its number", x.fault(0), 1);
        due("the least free one", x.source(), 1);
        due("program 3", x.count(3, 4), 0);
        due("program 4", x.count(4, 4), -1);
        due("drop(0)", x.drop(0), 0);
        due("drop(2)", x.drop(2), 0);
        due("the least free one of two", x.source(), 0);
    }

    /** A goal has the same limits, and nothing of a source around it. */
    private static void goals() {
        GoalHouse x = body("");
        feed(x, many("1|", 749) + "-+2");
        due("a goal of 1501 nodes", x.goal(0), -10 - 2 * 749 - 2);
        due("its fault", x.fault(0), 4);
        feed(x, many("1|", 749) + "-2");
        due("a goal of 1500 nodes", x.goal(0), 0);
        due("its first result", x.next(0, 4000), 1);
        feed(x, many("(", 61) + "1" + many(")", 61));
        due("61 open", x.goal(0), -70);
        due("its fault", x.fault(0), 4);
        due("60 open", results(x, many("(", 60) + "1" + many(")", 60), 2), "1 .");
        due("60 open in one another", results(x, many("{", 60) + "7" + many("}", 60), 2), "7 .");
        goalFault("case 1 of { default : 1; default : 2 }", 3, 25);
        goalFault("1;", 2, 1);
        goalFault(";1", 2, 0);
        goalFault("1 1", 2, 2);
        goalFault("local a", 2, 0);
        goalFault("procedure f();end", 2, 0);
        goalFault("end", 2, 0);
        goalFault("(1", 2, 2);
        goalFault("$", 1, 0);
        goalFault("abcdefghijklmnopqrstu", 1, 20);
        goalFault("\"abc", 1, 4);
        goalFault("", 2, 0);
        goalFault("# 1", 2, 3);
        goalFault("create fail", 5, 7);
        goalFault("suspend", 5, 0);
        goalFault("next", 5, 0);
        goalFault("repeat break break", 5, 13);
        gives("(a := 1) & (b := 2) & (a | b | /c)", "1 2 &null .");
        GoalHouse y = whole("global g, write2;record r(f);procedure p();end;procedure main();end");
        feed(y, "g & write2 & r & p & main & write & abs & x & y & x.z & &pos");
        due("its own NAMES", y.goal(0), 2);
        feed(y, "1");
        due("none of its own", y.goal(0), 0);
    }

    /** What a faulty source leaves does nothing to the next one. */
    private static void behindFaults() {
        String[] faulty = {"procedure main();create (", "procedure main();repeat (", "procedure main();" + many("(", 60) + "$", "procedure main();case a of { 1 : create", "procedure f();initial create {",
            "procedure f();static a;b;c $", "global a, b, $", "record r(a, $", "procedure f(a, b[$", "procedure f();x.", "procedure f();f(1,", "\"abc", "procedure f();a\n$"};
        for (String source : faulty) {
            GoalHouse x = new GoalHouse();
            feed(x, source);
            due(source + " is faulty", x.source() < -9 ? 1 : 0, 1);
            due("return behind " + source, read(x, "procedure main();local c;a;return b;end"), 0);
            due("locals behind " + source, x.part(0, 0, 1), 3);
            due("statics behind " + source, x.part(0, 0, 2), 0);
            due("nodes behind " + source, x.count(0, 3), 3);
            due("a node's procedure behind " + source, x.node(0, 0, 1), 0);
            feed(x, "procedure main();break;end");
            due("break behind " + source, x.source(), -27);
            due("its fault", x.fault(0), 5);
            due("60 open behind " + source, read(x, "procedure main();" + many("(", 60) + "1" + many(")", 60) + ";end"), 1);
            feed(x, "$");
            due("a fault at 0 behind " + source, x.source(), -10);
            due("an empty source behind " + source, read(x, ""), 2);
            due("no fault then", x.fault(0), 0);
            x.run(0, 0);
            x.step(0, 10);
            feed(x, source);
            due(source + " as a goal", x.goal(0) < -9 ? 1 : 0, 1);
            due("a goal behind " + source, results(x, "q | 1", 3), "&null 1 .");
            feed(x, "return 1");
            due("return in a goal", x.goal(0), -10);
        }
    }

    private static void tape() {
        GoalHouse x = new GoalHouse();
        for (int i = 1; i <= 400; i++) {
            due("feed " + i, x.feed(-1, 0, 1, 2, 3), 20 * i);
        }
        due("a full tape", x.feed(0, 0, 0, 0, 0), -3);
        due("cut(19)", x.cut(19), 7981);
        due("no room for 20", x.feed(0, 0, 0, 0, 0), -3);
        due("nothing came", x.cut(0), 7981);
        due("cut(1)", x.cut(1), 7980);
        due("room for 20", x.feed(0, 0, 0, 0, 0), 8000);
        due("cut of all", x.cut(8000), 0);
        GoalHouse y = new GoalHouse();
        String source = "procedure main();" + many("a;", 1490) + many(" ", 8000 - 17 - 2980 - 3) + "end";
        feed(y, source);
        due("a source of 8000 bytes", y.source(), 0);
        due("its nodes", y.count(0, 3), 1490);
        GoalHouse z = new GoalHouse();
        feed(z, many(" ", 7999) + "$");
        due("a fault at 7999", z.source(), -8009);
        feed(z, many(" ", 7994) + "global");
        due("a fault at 8000", z.source(), -8010);
        due("its place", z.fault(1), 8000);
    }

    private static void looked() {
        GoalHouse x = new GoalHouse();
        String n20 = "abcdefghijklmnopqrst";
        read(x, "record " + n20 + "(a,b,c);global x,yz;procedure f(a,b,c[]);local d;static e,g;h;end;procedure main();end;record s()");
        due("procedures", x.count(0, 0), 2);
        due("records", x.count(0, 1), 2);
        due("globals", x.count(0, 2), 2);
        due("nodes", x.count(0, 3), 1);
        due("count(5)", x.count(0, 5), -1);
        due("count(-1)", x.count(0, -1), -1);
        due("first byte", x.name(0, 1, 0, 0), 'a');
        due("last byte", x.name(0, 1, 0, 19), 't');
        due("behind it", x.name(0, 1, 0, 20), -1);
        due("ahead of it", x.name(0, 1, 0, -1), -1);
        due("global", x.name(0, 2, 1, 1), 'z');
        due("no global", x.name(0, 2, 2, 0), -1);
        due("global -1", x.name(0, 2, -1, 0), -1);
        due("procedure", x.name(0, 0, 1, 3), 'n');
        due("no procedure", x.name(0, 0, 2, 0), -1);
        due("no record", x.name(0, 1, 2, 0), -1);
        due("kind 3", x.name(0, 3, 0, 0), -1);
        due("kind -1", x.name(0, -1, 0, 0), -1);
        int[] f = {3, 5, 2, 1, 3};
        int[] m = {0, 0, 0, 0, 0};
        for (int what = 0; what < 5; what++) {
            due("part of f " + what, x.part(0, 0, what), f[what]);
            due("part of main " + what, x.part(0, 1, what), m[what]);
            due("part of 2 " + what, x.part(0, 2, what), -1);
            due("part of -1 " + what, x.part(0, -1, what), -1);
        }
        due("part 5", x.part(0, 0, 5), -1);
        due("part -1", x.part(0, 0, -1), -1);
    }

    public static void main(String[] args) {
        items();
        expressions();
        twice();
        tooMany();
        manyNodes();
        open();
        outOfPlace();
        ownNames();
        nodes();
        ranks();
        pairs();
        literals();
        lines();
        calls();
        goals();
        behindFaults();
        tape();
        looked();
        end();
    }
}
