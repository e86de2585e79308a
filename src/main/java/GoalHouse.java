import java.util.ArrayList;
import java.util.Arrays;

/** A house for a small language of expressions that give none, one or many results. */
public final class GoalHouse {
    public static final int BAD = -1;
    public static final int NO = -2;
    public static final int FULL = -3;

    private static final int TAPE = 8000;
    private static final int STEPS = 40000;
    /** A bound for loops whose end the document's limits give. */
    private static final int LOOPS = 1000000;

    // What an act comes to.
    private static final int GAVE = 1;
    private static final int FAILED = 2;
    private static final int BROKE = 3;
    private static final int DONE = 4;

    private static final String WORDS = "break by case create default do else end every fail global if initial local next not of procedure record repeat return static suspend then to until while ";
    private static final int BREAK = 0;
    private static final int BY = 1;
    private static final int CASE = 2;
    private static final int CREATE = 3;
    private static final int DEFAULT = 4;
    private static final int DO = 5;
    private static final int ELSE = 6;
    private static final int END = 7;
    private static final int EVERY = 8;
    private static final int FAIL = 9;
    private static final int GLOBAL = 10;
    private static final int IF = 11;
    private static final int INITIAL = 12;
    private static final int LOCAL = 13;
    private static final int NEXT = 14;
    private static final int NOT = 15;
    private static final int OF = 16;
    private static final int PROCEDURE = 17;
    private static final int RECORD = 18;
    private static final int REPEAT = 19;
    private static final int RETURN = 20;
    private static final int STATIC = 21;
    private static final int SUSPEND = 22;
    private static final int THEN = 23;
    private static final int TO = 24;
    private static final int UNTIL = 25;
    private static final int WHILE = 26;

    private static final String SIGNS = "( ) [ ] { } , ; . : +: -: & ? := <- :=: <-> | < <= = >= > ~= << <<= == >>= >> ~== === ~=== || ||| + - ++ -- * / % ** ^ \\ ! @ ~ +:= -:= *:= /:= %:= ^:= ++:= --:= **:= ||:= |||:= ";
    private static final int LPAR = 0;
    private static final int RPAR = 1;
    private static final int LBRACKET = 2;
    private static final int RBRACKET = 3;
    private static final int LBRACE = 4;
    private static final int RBRACE = 5;
    private static final int COMMA = 6;
    private static final int SEMI = 7;
    private static final int DOT = 8;
    private static final int COLON = 9;
    private static final int PLUSCOLON = 10;
    private static final int MINUSCOLON = 11;
    private static final int AND = 12;
    private static final int SCAN = 13;
    private static final int ASSIGN = 14;
    private static final int REVERSIBLE = 15;
    private static final int SWAP = 16;
    private static final int SWAPBACK = 17;
    private static final int BAR = 18;
    private static final int LESS = 19;
    private static final int EQUALS = 21;
    private static final int TEXTLESS = 25;
    private static final int ALIKE = 31;
    private static final int UNALIKE = 32;
    private static final int JOIN = 33;
    private static final int JOINLISTS = 34;
    private static final int PLUS = 35;
    private static final int MINUS = 36;
    private static final int UNION = 37;
    private static final int WITHOUT = 38;
    private static final int TIMES = 39;
    private static final int SLASH = 40;
    private static final int REST = 41;
    private static final int BOTH = 42;
    private static final int POWER = 43;
    private static final int BACKSLASH = 44;
    private static final int BANG = 45;
    private static final int AT = 46;
    private static final int TILDE = 47;
    private static final int FIRST_WITH_ASSIGN = 48;
    /** Operators that are words, numbered behind the signs. */
    private static final int TO_SIGN = 60;
    private static final int NOT_SIGN = 61;

    /** The rank of each sign between two operands; 0: none. */
    private static final int[] RANKS = {0, 0, 0, 0, 0, 0, 0, 0, 0, 0, 0, 0, 1, 2, 3, 3, 3, 3, 5, 6, 6, 6, 6, 6, 6, 6, 6, 6, 6, 6, 6, 6, 6, 7, 7, 8, 8, 8, 8, 9, 9, 9, 9, 10, 11, 11, 0, 0, 3, 3, 3, 3, 3, 3, 3, 3, 3, 3, 3};
    /** What each sign with := behind does ahead of assigning. */
    private static final int[] PLAIN = {PLUS, MINUS, TIMES, SLASH, REST, POWER, UNION, WITHOUT, BOTH, JOIN, JOINLISTS};

    private static final String KEYS = "null fail subject pos random error number value letters digits lower upper all ";
    private static final String BUILT_IN = "any many upto match find bal tab move pos write writes stop read image type proc copy whole text set number list group table put push get pull insert delete member key sort left right center trim repl reverse map char ord seq abs min max gcd digits ";
    private static final int BUILT_INS = 48;

    private final byte[] tape = new byte[TAPE];
    private int size;
    private final Program[] programs = new Program[4];
    private final Run[] runs = new Run[3];
    /** The runs' own rooms, kept so that a later run uses them again. */
    private final Run[] rooms = new Run[3];
    private final Kit kit = new Kit();
    private final Reader reader = new Reader();
    private int fault;
    private int faultPlace = NO;
    private byte[] shown = new byte[2100];
    private int shownSize;

    public GoalHouse() {
    }

    // ---- the tape

    public int feed(int a, int b, int c, int d, int e) {
        if (size + 20 > TAPE) {
            return FULL;
        }
        feedOne(a);
        feedOne(b);
        feedOne(c);
        feedOne(d);
        feedOne(e);
        return size;
    }

    private void feedOne(int a) {
        for (int shift = 24; shift >= 0; shift -= 8) {
            if (size < TAPE) {
                tape[size] = (byte) (a >> shift);
                size++;
            }
        }
    }

    public int cut(int n) {
        if (n < 0 || n > size) {
            return BAD;
        }
        size -= n;
        return size;
    }

    // ---- programs

    public int source() {
        int free = -1;
        for (int i = 3; i >= 0; i--) {
            if (programs[i] == null) {
                free = i;
            }
        }
        if (free < 0) {
            return FULL;
        }
        Program p = new Program();
        reader.start(tape, size, p, kit);
        reader.read();
        reader.resolve();
        size = 0;
        noteFault();
        if (fault != 0) {
            return -10 - faultPlace;
        }
        for (int i = 0; i < p.items.size(); i++) {
            Proc item = p.items.get(i);
            if (item.kind == Proc.GLOBALS) {
                p.writeGlobals(item);
            } else if (item.kind == Proc.MAKER) {
                p.writeHead("record", item, item.names.size());
            } else {
                p.writeProc(item, kit);
            }
        }
        programs[free] = p;
        return free;
    }

    private void noteFault() {
        fault = reader.fault;
        faultPlace = fault == 0 ? NO : reader.faultAt;
    }

    public int fault(int what) {
        if (what < 0 || what > 1) {
            return BAD;
        }
        return what == 0 ? fault : faultPlace;
    }

    private Program program(int number) {
        return number < 0 || number > 3 ? null : programs[number];
    }

    public int drop(int program) {
        Program p = program(program);
        if (p == null) {
            return BAD;
        }
        int gone = 0;
        for (int i = 0; i < 3; i++) {
            if (runs[i] != null && runs[i].program == p) {
                runs[i] = null;
                gone++;
            }
        }
        programs[program] = null;
        return gone;
    }

    public int count(int program, int what) {
        Program p = program(program);
        if (p == null) {
            return BAD;
        }
        switch (what) {
            case 0:
                return p.procs.size();
            case 1:
                return p.records.size();
            case 2:
                return p.globals.size();
            case 3:
                return p.nodes.size();
            case 4:
                return p.written.length();
            default:
                return BAD;
        }
    }

    public int written(int program, int i) {
        Program p = program(program);
        if (p == null || i < 0 || i >= p.written.length()) {
            return BAD;
        }
        return p.written.charAt(i);
    }

    public int name(int program, int kind, int i, int k) {
        Program p = program(program);
        if (p == null || i < 0 || k < 0) {
            return BAD;
        }
        String name = p.nameOf(kind, i);
        return name == null || k >= name.length() ? BAD : name.charAt(k);
    }

    public int part(int program, int i, int what) {
        Program p = program(program);
        if (p == null || i < 0 || what < 0 || what > 4) {
            return BAD;
        }
        if (what == 4) {
            return i < p.records.size() ? p.records.get(i).names.size() : BAD;
        }
        if (i >= p.procs.size()) {
            return BAD;
        }
        Proc proc = p.procs.get(i);
        switch (what) {
            case 0:
                return proc.params;
            case 1:
                return proc.names.size();
            case 2:
                return proc.statics.size();
            default:
                return proc.rest ? 1 : 0;
        }
    }

    public int node(int program, int k, int what) {
        Program p = program(program);
        if (p == null || k < 0 || k >= p.nodes.size()) {
            return BAD;
        }
        Node n = p.nodes.get(k);
        switch (what) {
            case 0:
                return n.place;
            case 1:
                return n.proc;
            case 2:
                return n.kind;
            default:
                return BAD;
        }
    }

    // ---- runs

    private Run running(int number) {
        return number < 0 || number > 2 ? null : runs[number];
    }

    public int run(int program, int seed) {
        Program p = program(program);
        if (p == null) {
            return BAD;
        }
        if (p.mainProc() == null) {
            return NO;
        }
        int free = -1;
        for (int i = 2; i >= 0; i--) {
            if (runs[i] == null) {
                free = i;
            }
        }
        if (free < 0) {
            return FULL;
        }
        if (rooms[free] == null) {
            rooms[free] = new Run(kit);
        }
        Run r = rooms[free];
        runs[free] = r;
        byte[] input = new byte[size];
        System.arraycopy(tape, 0, input, 0, size);
        size = 0;
        r.load(p, seed & 0x7fffffff, input);
        r.start();
        return free;
    }

    public int end(int run) {
        Run r = running(run);
        if (r == null) {
            return BAD;
        }
        runs[run] = null;
        return r.told[Run.DONE_STEPS];
    }

    public int step(int run, int n) {
        Run r = running(run);
        if (r == null || n < 1 || n > 4000) {
            return BAD;
        }
        if (r.told[Run.STATE] == 1) {
            if (STEPS - kit.steps < n) {
                return FULL;
            }
            r.go(n);
        }
        return r.told[Run.STATE];
    }

    public int back(int run, int n) {
        Run r = running(run);
        if (r == null || n < 0 || n > 4000) {
            return BAD;
        }
        if (STEPS - kit.steps < n) {
            return FULL;
        }
        r.start();
        r.go(n);
        return r.told[Run.STATE];
    }

    public int goal(int run) {
        Run r = running(run);
        if (r == null) {
            return BAD;
        }
        if (r.told[Run.STATE] != 0 || r.told[Run.GOAL] == Run.GOAL_CUT) {
            return NO;
        }
        Program text = new Program();
        Proc goal = new Proc("", Proc.GOAL);
        reader.start(tape, size, text, kit);
        reader.startGoal(goal);
        reader.read();
        reader.resolveGoal(goal, r.program);
        size = 0;
        noteFault();
        r.setGoal(fault == 0 ? goal : null);
        return fault == 0 ? goal.names.size() : -10 - faultPlace;
    }

    public int next(int run, int n) {
        Run r = running(run);
        if (r == null || n < 1 || n > 4000) {
            return BAD;
        }
        if (r.told[Run.GOAL] == Run.GOAL_NONE) {
            return NO;
        }
        if (STEPS - kit.steps < n) {
            return FULL;
        }
        r.toNextResult();
        r.go(n);
        return r.told[Run.OUTCOME];
    }

    public int told(int run, int what) {
        Run r = running(run);
        if (r == null || what < 0 || what > 13) {
            return BAD;
        }
        return r.figure(what);
    }

    public int out(int run, int i) {
        Run r = running(run);
        if (r == null || i < 0 || i >= r.told[Run.OUT] || i >= r.out.length) {
            return BAD;
        }
        return r.out[i] & 255;
    }

    public int show(int run, int what, int k, int i) {
        Run r = running(run);
        if (r == null || what < 0 || what > 6) {
            return BAD;
        }
        Val v = r.look(what, k, i);
        if (v == null) {
            return NO;
        }
        if (v.isLiteral()) {
            kit.literal(v);
        } else {
            kit.image(v);
        }
        shownSize = Math.min(kit.imageSize, shown.length);
        System.arraycopy(kit.image, 0, shown, 0, shownSize);
        return shownSize;
    }

    public int shown(int i) {
        return i < 0 || i >= shownSize || i >= shown.length ? BAD : shown[i] & 255;
    }

    public int thing(int run, int k, int what) {
        Run r = running(run);
        if (r == null || what < 0 || what > 2) {
            return BAD;
        }
        Thing t = r.thingAt(k);
        if (t == null) {
            return BAD;
        }
        if (what == 0) {
            return t.kind - Val.LIST;
        }
        if (what == 1) {
            return t.size;
        }
        return t.maker == null ? NO : t.maker.index;
    }

    public int event(int run, int i, int what) {
        Run r = running(run);
        if (r == null || what < 0 || what > 3 || i < 0 || i >= Run.MOST_EVENTS || i >= r.told[Run.EVENTS]) {
            return BAD;
        }
        return r.events[4 * i + what];
    }

    public int counted(int run, int k, int what) {
        Run r = running(run);
        if (r == null || what < 0 || what > 3 || k < 0 || k >= r.program.nodes.size()) {
            return BAD;
        }
        int at = 4 * k + what;
        return at < r.counts.length ? r.counts[at] : BAD;
    }

    // ---- words in lists of words

    /** The number of the word that these bytes are, in a list with a blank behind each word; -1: none. */
    private static int wordIn(String list, byte[] b, int from, int length) {
        int id = 0;
        int start = 0;
        for (int i = 0; i < list.length(); i++) {
            if (list.charAt(i) == ' ') {
                if (i - start == length && sameBytes(list, start, b, from, length)) {
                    return id;
                }
                id++;
                start = i + 1;
            }
        }
        return -1;
    }

    private static boolean sameBytes(String s, int start, byte[] b, int from, int length) {
        if (start + length > s.length() || from < 0 || from + length > b.length) {
            return false;
        }
        for (int i = 0; i < length; i++) {
            if (s.charAt(start + i) != (b[from + i] & 255)) {
                return false;
            }
        }
        return true;
    }

    private static String wordOf(String list, int id) {
        int start = 0;
        int k = 0;
        for (int i = 0; i < list.length(); i++) {
            if (list.charAt(i) == ' ') {
                if (k == id) {
                    return list.substring(start, i);
                }
                k++;
                start = i + 1;
            }
        }
        return "";
    }

    /** A value, or a cell that has one. */
    private static final class Val {
        static final int NULL = 0;
        static final int WHOLE = 1;
        static final int TEXT = 2;
        static final int SET = 3;
        static final int PROC = 4;
        static final int LIST = 5;
        static final int GROUP = 6;
        static final int TABLE = 7;
        static final int RECORD = 8;
        static final int PART = 9;
        // From here on cells.
        static final int CELL = 10;
        /** A table's element that is looked for by its key, in. */
        static final int COMING = 11;
        /** The bytes off .. of the text that the cell in has. */
        static final int SECTION = 12;
        static final int SUBJECT = 13;
        static final int POS = 14;
        static final int RANDOM = 15;
        static final int ERROR = 16;

        final int kind;
        /** A whole, or the sign of a big one. */
        long num;
        /** The limbs of a whole of 10^18 and above in size, the lowest first. */
        int[] big;
        byte[] bytes;
        int off;
        int len;
        long[] bits;
        Thing thing;
        /** What a cell has or belongs to; of a value that lies in a work row, itself. */
        Val in;
        Scan scan;
        Proc proc;

        Val(int kind) {
            this.kind = kind;
        }

        static Val whole(long n) {
            Val v = new Val(WHOLE);
            v.num = n;
            return v;
        }

        static Val text(byte[] b, int off, int len) {
            Val v = new Val(TEXT);
            v.bytes = b;
            v.off = off;
            v.len = len;
            return v;
        }

        static Val word(String s) {
            byte[] b = new byte[s.length()];
            for (int i = 0; i < b.length; i++) {
                b[i] = (byte) s.charAt(i);
            }
            return text(b, 0, b.length);
        }

        static Val cell(Val value) {
            Val v = new Val(CELL);
            v.in = value;
            return v;
        }

        /** This value as it can be kept: one that lies in a work row is copied. */
        Val lasting() {
            if (in != this) {
                return this;
            }
            Val v = new Val(kind);
            v.num = num;
            v.big = big == null ? null : Arrays.copyOf(big, big.length);
            v.bytes = bytes;
            v.off = off;
            v.len = len;
            v.bits = bits == null ? null : Arrays.copyOf(bits, bits.length);
            return v;
        }

        boolean isLiteral() {
            return kind >= WHOLE && kind <= SET;
        }

        boolean isCell() {
            return kind >= CELL;
        }

        boolean has(int b) {
            int k = b >> 6;
            return bits != null && k >= 0 && k < bits.length && (bits[k] >>> (b & 63) & 1L) != 0;
        }

        void put(int b) {
            int k = b >> 6;
            if (bits != null && k >= 0 && k < bits.length) {
                bits[k] |= 1L << (b & 63);
            }
        }

        /** Byte i of a text, from 0. */
        int at(int i) {
            int k = off + i;
            return bytes != null && i >= 0 && k >= 0 && k < bytes.length ? bytes[k] & 255 : 0;
        }

        /** How many bytes a set has. */
        int many() {
            int n = 0;
            if (bits != null) {
                for (long word : bits) {
                    n += Long.bitCount(word);
                }
            }
            return n;
        }

        static boolean alike(Val a, Val b) {
            if (a == b) {
                return true;
            }
            if (a.kind != b.kind) {
                return false;
            }
            switch (a.kind) {
                case NULL:
                    return true;
                case WHOLE:
                    return sameWhole(a, b);
                case TEXT:
                    return sameText(a, b);
                case SET:
                    return sameSet(a, b);
                case PROC:
                    return a.proc == b.proc;
                default:
                    return a.thing == b.thing;
            }
        }

        private static boolean sameWhole(Val a, Val b) {
            if (a.num != b.num || (a.big == null) != (b.big == null)) {
                return false;
            }
            if (a.big == null || b.big == null) {
                return true;
            }
            for (int i = 0; i < a.big.length && i < b.big.length; i++) {
                if (a.big[i] != b.big[i]) {
                    return false;
                }
            }
            return true;
        }

        private static boolean sameText(Val a, Val b) {
            int last = a.len - 1;
            if (a.len != b.len || last >= 0 && (a.bytes == null || b.bytes == null)) {
                return false;
            }
            for (int i = 0; i <= last && a.off + last < a.bytes.length && b.off + last < b.bytes.length; i++) {
                if (a.bytes[a.off + i] != b.bytes[b.off + i]) {
                    return false;
                }
            }
            return true;
        }

        private static boolean sameSet(Val a, Val b) {
            if (a.bits == null || b.bits == null) {
                return a.bits == b.bits;
            }
            for (int i = 0; i < a.bits.length && i < b.bits.length; i++) {
                if (a.bits[i] != b.bits[i]) {
                    return false;
                }
            }
            return true;
        }

        /** A number that ALIKE values share. */
        int hash() {
            int h = kind * 7919;
            switch (kind) {
                case WHOLE:
                    h += (int) (num ^ num >>> 31);
                    if (big != null) {
                        for (int limb : big) {
                            h = h * 31 + limb;
                        }
                    }
                    return h;
                case TEXT:
                    for (int i = 0; i < len && bytes != null && off + i < bytes.length; i++) {
                        h = h * 31 + bytes[off + i];
                    }
                    return h;
                case SET:
                    if (bits != null) {
                        for (long word : bits) {
                            h = h * 31 + (int) (word ^ word >>> 32);
                        }
                    }
                    return h;
                case PROC:
                    return proc == null ? h : h + proc.index * 4 + proc.kind;
                default:
                    return thing == null ? h : h + thing.number;
            }
        }
    }

    /** A list, group, table, record or part. */
    private static final class Thing {
        // What a part is.
        static final int NEW = 0;
        static final int WAITS = 1;
        static final int ACTIVE = 2;
        static final int OVER = 3;

        final int kind;
        final Val self;
        int number;
        /** A list's, record's cells from head on; a table's cells; a part's values at first. */
        Val[] items;
        /** A group's members, a table's keys, as they came; what went leaves null. */
        Val[] keys;
        int head;
        /** Its size as * tells it; of a part how many results it gave. */
        int size;
        int used;
        int[] heads;
        int[] links;
        /** A table's default. */
        Val other;
        Proc maker;
        Call call;
        /** A part's outermost frame. */
        Frame frame;
        /** What activated the part that is active. */
        Frame waiter;
        Thing prior;
        int state;
        /** The number of the goal in whose text its create stands; of an active part how many are active with it. */
        int goal;
        int level;

        private Thing(int kind, Val self) {
            this.kind = kind;
            this.self = self;
        }

        static Thing make(int kind) {
            Thing t = new Thing(kind, new Val(kind));
            t.self.thing = t;
            return t;
        }

        static Thing row(int kind, int n) {
            Thing t = new Thing(kind, new Val(kind));
            t.self.thing = t;
            t.items = new Val[Math.max(0, n)];
            return t;
        }

        /** The cell at place i, from 1, of a list or record. */
        Val cell(int i) {
            int k = head + i - 1;
            return items != null && i >= 1 && i <= size && k >= 0 && k < items.length ? items[k] : null;
        }

        void addRight(Val cell) {
            if (items == null || head + size >= items.length) {
                spread();
            }
            fill(cell);
        }

        /** A cell comes at the right end, where there is room for it. */
        void fill(Val cell) {
            int k = head + size;
            if (k >= 0 && k < items.length) {
                items[k] = cell;
                size++;
            }
        }

        void addLeft(Val cell) {
            if (items == null || head <= 0) {
                spread();
            }
            int k = head - 1;
            if (k >= 0 && k < items.length) {
                items[k] = cell;
                head = k;
                size++;
            }
        }

        /** Makes room at both ends, in the old row if it is wide. */
        private void spread() {
            Val[] old = items;
            int have = old == null ? 0 : old.length;
            boolean wide = have >= 2 * size + 8;
            Val[] to = wide ? old : new Val[2 * size + 12];
            int start = (to.length - size) / 2;
            if (old != null && size > 0 && head >= 0 && head + size <= old.length) {
                System.arraycopy(old, head, to, start, size);
            }
            items = to;
            head = start;
        }

        Val takeLeft() {
            Val c = cell(1);
            if (c != null) {
                head++;
                size--;
            }
            return c;
        }

        Val takeRight() {
            Val c = cell(size);
            if (c != null) {
                size--;
            }
            return c;
        }

        /** Where a key or member stands; -1: nowhere. */
        int find(Val key) {
            if (heads == null || heads.length == 0) {
                return -1;
            }
            int p = heads[key.hash() & heads.length - 1];
            for (int g = 0; g < LOOPS && p >= 0 && p < used; g++) {
                Val k = keys[p];
                if (k != null && Val.alike(k, key)) {
                    return p;
                }
                p = links[p];
            }
            return -1;
        }

        /** Makes room for one more key or member. */
        void makeRoom() {
            if (keys == null || used >= keys.length) {
                widen(2 * used);
            }
        }

        /** A key or member, which is not there yet, comes; there is room for it. */
        void add(Val key, Val cell) {
            if (keys == null || used >= keys.length) {
                return;
            }
            keys[used] = key;
            if (items != null && used < items.length) {
                items[used] = cell;
            }
            int h = key.hash() & heads.length - 1;
            links[used] = heads[h];
            heads[h] = used;
            used++;
            size++;
        }

        void widen(int room) {
            int width = 8;
            for (int g = 0; g < 20 && width < room; g++) {
                width *= 2;
            }
            Val[] k = new Val[width];
            Val[] c = new Val[kind == Val.TABLE ? width : 0];
            if (keys != null) {
                System.arraycopy(keys, 0, k, 0, Math.min(used, keys.length));
            }
            if (items != null) {
                System.arraycopy(items, 0, c, 0, Math.min(Math.min(used, c.length), items.length));
            }
            keys = k;
            items = c;
            heads = new int[width];
            links = new int[width];
            Arrays.fill(heads, -1);
            for (int i = 0; i < used; i++) {
                if (keys[i] != null) {
                    int h = keys[i].hash() & width - 1;
                    links[i] = heads[h];
                    heads[h] = i;
                }
            }
        }

        void remove(int slot) {
            if (slot < 0 || slot >= used || keys[slot] == null) {
                return;
            }
            int h = keys[slot].hash() & heads.length - 1;
            if (heads[h] == slot) {
                heads[h] = links[slot];
            } else {
                int p = heads[h];
                for (int g = 0; g < LOOPS && p >= 0 && links[p] != slot; g++) {
                    p = links[p];
                }
                if (p >= 0) {
                    links[p] = links[slot];
                }
            }
            keys[slot] = null;
            size--;
        }

        void clear() {
            if (heads != null) {
                Arrays.fill(heads, -1);
            }
            used = 0;
            size = 0;
        }

        /** The first place from this on at which a key or member stands; -1: none. */
        int from(int slot) {
            for (int i = slot < 0 ? 0 : slot; i < used && keys != null && i < keys.length; i++) {
                if (keys[i] != null) {
                    return i;
                }
            }
            return -1;
        }

        /** Where the i-th key or member stands, from 1; -1: nowhere. */
        int nth(long i) {
            if (i < 1 || i > size) {
                return -1;
            }
            int p = -1;
            for (long k = 0; k < i; k++) {
                p = from(p + 1);
            }
            return p;
        }

        /** The i-th element or member, from 1, as it would be a result of ! ; null: none. */
        Val element(long i) {
            if (kind == Val.LIST || kind == Val.RECORD) {
                return i < 1 || i > size ? null : cell((int) i);
            }
            if (kind == Val.PART) {
                return null;
            }
            return slotted(nth(i));
        }

        Val slotted(int slot) {
            if (slot < 0 || keys == null || slot >= keys.length) {
                return null;
            }
            if (kind == Val.GROUP) {
                return keys[slot];
            }
            return items != null && slot < items.length ? items[slot] : null;
        }
    }

    /** A scanning's, a part's or a run's own &subject and &pos. */
    private static final class Scan {
        Val subject;
        int pos = 1;
        Val subjectCell;
        Val posCell;

        Scan(Val subject) {
            this.subject = subject;
        }

        Val cellOf(int kind) {
            Val c = kind == Val.SUBJECT ? subjectCell : posCell;
            if (c == null) {
                c = new Val(kind);
                c.scan = this;
                if (kind == Val.SUBJECT) {
                    subjectCell = c;
                } else {
                    posCell = c;
                }
            }
            return c;
        }
    }

    /** A call of a procedure, or what stands for it in a goal or a part. */
    private static final class Call {
        final Proc proc;
        final Val[] cells;
        final int depth;
        /** The frame of the node that called. */
        final Frame frame;

        Call(Proc proc, Val[] cells, int depth, Frame frame) {
            this.proc = proc;
            this.cells = cells;
            this.depth = depth;
            this.frame = frame;
        }
    }

    /** An expression that was begun and is not over. */
    private static final class Frame {
        // What it is at.
        static final int OPERANDS = 0;
        static final int ONE = 1;
        static final int MORE = 2;
        static final int PASS = 3;
        static final int CALL = 4;
        static final int INIT = 5;
        static final int SUSPENDED = 6;
        static final int SEQUENCE = 7;
        static final int SCANNING = 8;
        static final int LIMIT = 9;
        static final int NEGATED = 10;
        static final int AGAIN = 11;
        static final int CONDITION = 12;
        static final int BODY = 13;
        static final int PART = 14;
        static final int GOAL = 15;

        final Node node;
        final Frame up;
        /** The operand in front of this one. */
        Frame prev;
        Frame last;
        /** What goes on behind the operands. */
        Frame inner;
        Call call;
        Scan scan;
        Val res;
        /** What further results come from. */
        Val a;
        Val b;
        Val c;
        Val d;
        int state;
        /** What gives more results: one of Acts' numbers. */
        int more;
        long i;
        long j;
        int n;

        Frame(Node node, Frame up) {
            this.node = node;
            this.up = up;
            if (up != null) {
                call = up.call;
                scan = up.scan;
            }
        }

        Val left() {
            return last == null || last.prev == null ? null : last.prev.res;
        }

        Val right() {
            return last == null ? null : last.res;
        }
    }

    /** A node of a source or goal. */
    private static final class Node {
        static final int NAME = 0;
        static final int NUMBER = 1;
        static final int TEXT = 2;
        static final int SET = 3;
        static final int KEY = 4;
        static final int OP = 5;
        static final int CALL = 6;
        static final int SUB = 7;
        static final int FIELD = 8;
        static final int LIST = 9;
        static final int BRACE = 10;
        static final int EMPTY = 11;
        static final int WORD = 12;
        /** An argument that is left out, or the word default. */
        static final int OMITTED = 13;

        // Where a NAME's cell is.
        static final int IN_CALL = 0;
        static final int IN_STATICS = 1;
        static final int IN_GLOBALS = 2;

        final int kind;
        int op;
        final int place;
        int proc;
        int id = -1;
        Node kid;
        Node tail;
        Node next;
        int kids;
        String name;
        Val lit;
        int scope;
        int slot;
        /** Of break and next the loop that they mean, of a loop the one around it. */
        Node loop;

        Node(int kind, int op, int place) {
            this.kind = kind;
            this.op = op;
            this.place = place;
        }

        void add(Node n) {
            if (n == null) {
                return;
            }
            if (tail == null) {
                kid = n;
            } else {
                tail.next = n;
            }
            tail = n;
            kids++;
        }
    }

    /** A procedure, a record, a built-in procedure, or what stands for one in a goal. */
    private static final class Proc {
        static final int SOURCE = 0;
        static final int MAKER = 1;
        static final int LIBRARY = 2;
        static final int GOAL = 3;
        /** An item that tells globals. */
        static final int GLOBALS = 4;

        final String name;
        final int kind;
        int index;
        int place;
        /** The list, the locals that are told, then the others; a record's fields. */
        final ArrayList<Node> names = new ArrayList<Node>();
        final ArrayList<Node> statics = new ArrayList<Node>();
        int params;
        /** How many of names are told. */
        int told;
        boolean rest;
        int staticBase;
        Node first;
        /** Holds the expressions of the body. */
        Node body;
        Val val;
        /** The NAME as a text, when it was asked for. */
        Val word;

        Proc(String name, int kind) {
            this.name = name;
            this.kind = kind;
        }

        static Proc make(String name, int kind, int index) {
            Proc p = new Proc(name, kind);
            p.index = index;
            p.val = new Val(Val.PROC);
            p.val.proc = p;
            return p;
        }

        static int find(ArrayList<Node> names, String name) {
            for (int i = 0; i < names.size(); i++) {
                if (name.equals(names.get(i).name)) {
                    return i;
                }
            }
            return -1;
        }
    }

    /** What a source was read as. */
    private static final class Program {
        // What there is to be written: a node in its ways, or a word.
        private static final int PLAIN_EXPRESSION = 0;
        private static final int OPERAND = 1;
        private static final int INNER = 2;
        private static final int ARGUMENTS = 3;
        private static final int SEQUENCE = 4;
        private static final int CLAUSES = 5;
        private static final int FIELD_NAME = 6;
        /** A sign, and on from TIGHT one with no blank in front, on from GLUED with none behind. */
        private static final int SIGN = 100;
        private static final int TIGHT = 200;
        private static final int GLUED = 300;
        private static final int TIGHT_GLUED = 400;
        private static final int WORD = 500;

        final ArrayList<Node> nodes = new ArrayList<Node>();
        final ArrayList<Proc> procs = new ArrayList<Proc>();
        final ArrayList<Proc> records = new ArrayList<Proc>();
        final ArrayList<Node> globals = new ArrayList<Node>();
        /** In the order of the source. */
        final ArrayList<Proc> items = new ArrayList<Proc>();
        final StringBuilder written = new StringBuilder();
        int staticCount;
        private boolean glue = true;
        private Node[] todo = new Node[64];
        private int[] ways = new int[64];
        private int open;

        /** The global of this name: told ones, procedures, records, then built-in ones; -1: none. */
        int global(String name, Kit kit) {
            int i = Proc.find(globals, name);
            if (i >= 0) {
                return i;
            }
            i = indexOf(procs, name);
            if (i >= 0) {
                return globals.size() + i;
            }
            i = indexOf(records, name);
            if (i >= 0) {
                return globals.size() + procs.size() + i;
            }
            for (int k = 0; k < BUILT_INS; k++) {
                if (kit.library[k].name.equals(name)) {
                    return globals.size() + procs.size() + records.size() + k;
                }
            }
            return -1;
        }

        static int indexOf(ArrayList<Proc> list, String name) {
            for (int i = 0; i < list.size(); i++) {
                if (list.get(i).name.equals(name)) {
                    return i;
                }
            }
            return -1;
        }

        boolean taken(String name) {
            return Proc.find(globals, name) >= 0 || indexOf(procs, name) >= 0 || indexOf(records, name) >= 0;
        }

        /** The procedure, maker or built-in one of a name that a text is; null: none. */
        Proc procOf(Val t, Kit kit) {
            Proc p = named(procs, t);
            if (p == null) {
                p = named(records, t);
            }
            if (p == null && t.bytes != null) {
                int k = wordIn(BUILT_IN, t.bytes, t.off, t.len);
                p = k < 0 || k >= BUILT_INS ? null : kit.library[k];
            }
            return p;
        }

        private static Proc named(ArrayList<Proc> list, Val t) {
            for (int i = 0; i < list.size(); i++) {
                Proc p = list.get(i);
                if (p.name.length() == t.len && t.bytes != null && sameBytes(p.name, 0, t.bytes, t.off, t.len)) {
                    return p;
                }
            }
            return null;
        }

        Proc mainProc() {
            int i = indexOf(procs, "main");
            return i < 0 ? null : procs.get(i);
        }

        String nameOf(int kind, int i) {
            if (kind == 0) {
                return i < procs.size() ? procs.get(i).name : null;
            }
            if (kind == 1) {
                return i < records.size() ? records.get(i).name : null;
            }
            return kind == 2 && i < globals.size() ? globals.get(i).name : null;
        }

        // ---- as it is WRITTEN

        private void word(String s, boolean tight, boolean glued) {
            if (!glue && !tight) {
                written.append(' ');
            }
            written.append(s);
            glue = glued;
        }

        private void endLine(boolean semi) {
            if (semi) {
                written.append(';');
            }
            written.append((char) 10);
            glue = true;
        }

        private void names(String word, ArrayList<Node> names, int from, int to) {
            word(word, false, false);
            for (int i = from; i < to && i < names.size(); i++) {
                if (i > from) {
                    word(",", true, false);
                }
                word(names.get(i).name, false, false);
            }
        }

        void writeGlobals(Proc p) {
            names("global", p.names, 0, p.names.size());
            endLine(true);
        }

        /** The first line of a procedure, or a record. */
        void writeHead(String word, Proc p, int count) {
            word(word, false, false);
            word(p.name, false, false);
            word("(", true, true);
            for (int i = 0; i < count && i < p.names.size(); i++) {
                if (i > 0) {
                    word(",", true, false);
                }
                word(p.names.get(i).name, false, false);
            }
            if (p.rest) {
                word("[", true, true);
                word("]", true, false);
            }
            word(")", true, false);
            endLine(true);
        }

        void writeProc(Proc p, Kit kit) {
            writeHead("procedure", p, p.params);
            if (p.told > p.params) {
                indent();
                names("local", p.names, p.params, p.told);
                endLine(true);
            }
            if (p.statics.size() > 0) {
                indent();
                names("static", p.statics, 0, p.statics.size());
                endLine(true);
            }
            if (p.first != null) {
                indent();
                word("initial", false, false);
                write(p.first, kit);
                endLine(true);
            }
            Node n = p.body == null ? null : p.body.kid;
            for (int g = 0; g < LOOPS && n != null; g++) {
                indent();
                write(n, kit);
                endLine(true);
                n = n.next;
            }
            word("end", false, false);
            endLine(false);
        }

        private void indent() {
            written.append("   ");
            glue = true;
        }

        private void push(Node n, int way) {
            if (open >= todo.length) {
                Node[] more = new Node[2 * todo.length];
                System.arraycopy(todo, 0, more, 0, todo.length);
                todo = more;
                ways = Arrays.copyOf(ways, more.length);
            }
            todo[open] = n;
            ways[open] = way;
            open++;
        }

        private void write(Node root, Kit kit) {
            open = 0;
            push(root, PLAIN_EXPRESSION);
            for (int g = 0; g < LOOPS && open > 0; g++) {
                open--;
                Node n = todo[open];
                int way = ways[open];
                if (way >= WORD) {
                    word(wordOf(WORDS, way - WORD), false, false);
                } else if (way >= SIGN) {
                    int k = (way - SIGN) / 100;
                    word(wordOf(SIGNS, way % 100), k == 1 || k == 3, k >= 2);
                } else if (n != null && way == PLAIN_EXPRESSION && n.lit != null && n.kind >= Node.NUMBER && n.kind <= Node.SET) {
                    writeLiteral(n.lit, kit);
                } else if (n != null) {
                    writeNode(n, way);
                }
            }
        }

        private void writeLiteral(Val v, Kit kit) {
            kit.literal(v);
            word("", false, false);
            for (int i = 0; i < kit.imageSize; i++) {
                written.append((char) (kit.image[i] & 255));
            }
        }

        private void writeNode(Node n, int way) {
            switch (way) {
                case OPERAND:
                case INNER:
                    if (n.kind == Node.WORD || way == OPERAND && n.kind == Node.OP) {
                        push(null, TIGHT + RPAR);
                        push(n, PLAIN_EXPRESSION);
                        push(null, GLUED + LPAR);
                    } else {
                        push(n, PLAIN_EXPRESSION);
                    }
                    break;
                case ARGUMENTS:
                    writeRow(n, ARGUMENTS, COMMA);
                    break;
                case SEQUENCE:
                    writeRow(n, SEQUENCE, SEMI);
                    break;
                case CLAUSES:
                    writeClause(n);
                    break;
                case FIELD_NAME:
                    word(".", true, true);
                    word(n.name, true, false);
                    break;
                default:
                    writeExpression(n);
            }
        }

        private void writeRow(Node n, int way, int sign) {
            if (n.next != null) {
                push(n.next, way);
                push(null, TIGHT + sign);
            }
            if (n.kind != Node.OMITTED) {
                push(n, PLAIN_EXPRESSION);
            }
        }

        private void writeClause(Node n) {
            Node value = n.next;
            if (value == null) {
                return;
            }
            if (value.next != null) {
                push(value.next, CLAUSES);
                push(null, TIGHT + SEMI);
            }
            push(value, INNER);
            push(null, SIGN + COLON);
            if (n.kind == Node.OMITTED) {
                push(null, WORD + DEFAULT);
            } else {
                push(n, INNER);
            }
        }

        private void writeExpression(Node n) {
            switch (n.kind) {
                case Node.NAME:
                    word(n.name, false, false);
                    break;
                case Node.KEY:
                    word("&", false, true);
                    word(wordOf(KEYS, n.op), true, false);
                    break;
                case Node.OP:
                    writeOperator(n);
                    break;
                case Node.CALL:
                    push(null, TIGHT + RPAR);
                    push(n.kid.next, ARGUMENTS);
                    push(null, TIGHT_GLUED + LPAR);
                    push(n.kid, OPERAND);
                    break;
                case Node.SUB:
                    writeSub(n);
                    break;
                case Node.FIELD:
                    push(n, FIELD_NAME);
                    push(n.kid, OPERAND);
                    break;
                case Node.LIST:
                    push(null, TIGHT + RBRACKET);
                    push(n.kid, ARGUMENTS);
                    push(null, GLUED + LBRACKET);
                    break;
                case Node.BRACE:
                    push(null, SIGN + RBRACE);
                    push(n.kid, SEQUENCE);
                    push(null, SIGN + LBRACE);
                    break;
                case Node.EMPTY:
                    push(null, TIGHT + RPAR);
                    push(null, GLUED + LPAR);
                    break;
                default:
                    writeWorded(n);
            }
        }

        private void writeOperator(Node n) {
            if (n.kids == 1) {
                push(n.kid, OPERAND);
                push(null, n.op == NOT_SIGN ? WORD + NOT : GLUED + n.op);
                return;
            }
            Node right = n.kid.next;
            if (n.kids == 3 && right != null) {
                push(right.next, OPERAND);
                push(null, WORD + BY);
            }
            push(right, OPERAND);
            push(null, n.op == TO_SIGN ? WORD + TO : SIGN + n.op);
            push(n.kid, OPERAND);
        }

        private void writeSub(Node n) {
            push(null, TIGHT + RBRACKET);
            Node i = n.kid.next;
            if (i != null && i.next != null) {
                push(i.next, PLAIN_EXPRESSION);
                push(null, SIGN + n.op);
            }
            push(i, PLAIN_EXPRESSION);
            push(null, TIGHT_GLUED + LBRACKET);
            push(n.kid, OPERAND);
        }

        private void writeWorded(Node n) {
            Node a = n.kid;
            Node b = a == null ? null : a.next;
            if (n.op == CASE) {
                push(null, SIGN + RBRACE);
                push(b, CLAUSES);
                push(null, SIGN + LBRACE);
                push(null, WORD + OF);
            } else if (b != null) {
                if (b.next != null) {
                    push(b.next, INNER);
                    push(null, WORD + ELSE);
                }
                push(b, INNER);
                push(null, WORD + (n.op == IF ? THEN : DO));
            }
            push(a, INNER);
            push(null, WORD + n.op);
        }
    }

    /** Reads a source or a goal, word by word. */
    private static final class Reader {
        // What a word is.
        private static final int NONE = 0;
        private static final int NAME = 1;
        private static final int NUMBER = 2;
        private static final int TEXT = 3;
        private static final int SET = 4;
        private static final int KEY = 5;
        private static final int SIGN = 6;
        private static final int WORD = 7;

        // What is not closed yet; below these the ranks of operators that wait for their right side.
        private static final int PAREN = 20;
        private static final int ARGUMENTS = 21;
        private static final int ELEMENTS = 22;
        private static final int PLACE = 23;
        private static final int PLACES = 24;
        private static final int SEQUENCE = 25;
        private static final int IF_CONDITION = 26;
        private static final int IF_THEN = 27;
        private static final int IF_ELSE = 28;
        private static final int LOOP_CONDITION = 29;
        private static final int LOOP_BODY = 30;
        private static final int REPEATED = 31;
        private static final int CASE_OF = 32;
        private static final int CASE_KEY = 33;
        private static final int CASE_VALUE = 34;
        private static final int CREATED = 35;
        private static final int RETURNED = 36;
        private static final int SUSPENDED = 37;
        private static final int SUSPEND_BODY = 38;

        // Where the next word stands.
        private static final int ITEM = 0;
        private static final int ITEM_END = 1;
        private static final int GLOBAL_NAME = 2;
        private static final int GLOBAL_NEXT = 3;
        private static final int TITLE = 4;
        private static final int TITLE_OPEN = 5;
        private static final int LIST_FIRST = 6;
        private static final int LIST_NAME = 7;
        private static final int LIST_NEXT = 8;
        private static final int LIST_REST = 9;
        private static final int LIST_LAST = 10;
        private static final int HEAD_END = 11;
        private static final int PARTS = 12;
        private static final int OWN_LOCAL = 13;
        private static final int OWN_STATIC = 14;
        private static final int LOCAL_NEXT = 15;
        private static final int STATIC_NEXT = 16;
        private static final int BODY = 17;
        private static final int INITIAL_END = 18;
        private static final int BODY_END = 19;
        private static final int GOAL_END = 20;
        private static final int EXPRESSION = 21;
        private static final int WANT_BRACE = 22;
        private static final int WANT_COLON = 23;
        private static final int WANT_FIELD = 24;
        private static final int READ = 25;

        private static final int MOST_OPEN = 60;
        private static final int MOST_NODES = 1500;
        private static final long ENDERS = 1L << BREAK | 1L << END | 1L << FAIL | 1L << NEXT | 1L << RETURN | 1L << SUSPEND;
        private static final long BEGINNERS = 1L << BREAK | 1L << CASE | 1L << CREATE | 1L << EVERY | 1L << FAIL | 1L << IF | 1L << NEXT | 1L << NOT | 1L << REPEAT | 1L << RETURN | 1L << SUSPEND | 1L << UNTIL | 1L << WHILE;
        private static final long STARTERS = BEGINNERS | 1L << DEFAULT | 1L << GLOBAL | 1L << INITIAL | 1L << LOCAL | 1L << PROCEDURE | 1L << RECORD | 1L << STATIC;
        private static final long PREFIXES = 1L << PLUS | 1L << MINUS | 1L << TIMES | 1L << SLASH | 1L << BACKSLASH | 1L << BANG | 1L << SCAN | 1L << AT | 1L << POWER | 1L << DOT | 1L << TILDE | 1L << EQUALS | 1L << BAR;

        private Kit kit;
        private byte[] text;
        private int size;
        private int at;
        // The word that is looked at; with semi a ; in front of it.
        private int kind;
        private int id;
        private int place;
        private boolean semi;
        private String name;
        private Val lit;
        int fault;
        int faultAt;
        private Program program;
        /** The item that is read, or the goal. */
        private Proc proc;
        private int state;
        private final int[] types = new int[700];
        private final Node[] nodes = new Node[700];
        private final Node[] loops = new Node[700];
        private int top;
        private int open;
        /** The operand that stands in front of the word, null: one is wanted. */
        private Node left;
        private Node loop;
        /** How many create and initial are around; goals begin with one. */
        private int barred;

        void start(byte[] tape, int length, Program p, Kit k) {
            kit = k;
            text = tape;
            size = Math.min(length, tape.length);
            at = 0;
            kind = NONE;
            semi = false;
            fault = 0;
            faultAt = 0;
            program = p;
            proc = null;
            state = ITEM;
            barred = 0;
        }

        private void fail(int number, int where) {
            if (fault == 0) {
                fault = number;
                faultAt = where;
            }
        }

        // ---- words

        private int byteAt(int i) {
            return i >= 0 && i < size ? text[i] & 255 : -1;
        }

        private static boolean letter(int c) {
            return c >= 'a' && c <= 'z' || c >= 'A' && c <= 'Z';
        }

        private static boolean digit(int c) {
            return c >= '0' && c <= '9';
        }

        private boolean isSign(int sign) {
            return semi ? sign == SEMI : kind == SIGN && id == sign;
        }

        private boolean isWord(int word) {
            return !semi && kind == WORD && id == word;
        }

        private boolean isEnd() {
            return !semi && kind == NONE;
        }

        private void advance() {
            if (semi) {
                semi = false;
                return;
            }
            boolean ends = endsLine();
            boolean line = skip();
            lex();
            semi = fault == 0 && line && ends && startsLine();
        }

        private boolean endsLine() {
            if (kind == SIGN) {
                return id == RPAR || id == RBRACKET || id == RBRACE;
            }
            return kind == WORD ? (ENDERS >>> id & 1) != 0 : kind != NONE;
        }

        private boolean startsLine() {
            if (kind == SIGN) {
                return id == LPAR || id == LBRACKET || id == LBRACE || id == BANG || id == TILDE;
            }
            return kind == WORD ? (STARTERS >>> id & 1) != 0 : kind != NONE;
        }

        /** Goes behind blanks and notes; whether a line ended there. */
        private boolean skip() {
            boolean line = false;
            boolean note = false;
            for (int g = 0; g < TAPE && at < size; g++) {
                int c = byteAt(at);
                if (c == 10) {
                    line = true;
                    note = false;
                } else if (c == '#') {
                    note = true;
                } else if (!note && c != 9 && c != 13 && c != 32) {
                    return line;
                }
                at++;
            }
            return line;
        }

        private void lex() {
            place = at;
            int c = byteAt(at);
            if (c < 0) {
                kind = NONE;
            } else if (letter(c) || c == '_') {
                lexName();
            } else if (digit(c)) {
                lexNumber();
            } else if (c == '"' || c == 39) {
                lexQuoted(c);
            } else if (c != '&' || !lexKey()) {
                lexSign();
            }
        }

        private void lexName() {
            int end = at;
            for (int g = 0; g < TAPE && (letter(byteAt(end)) || digit(byteAt(end)) || byteAt(end) == '_'); g++) {
                end++;
            }
            int n = end - at;
            if (n > 20) {
                fail(1, at + 20);
                return;
            }
            id = wordIn(WORDS, text, at, n);
            kind = id >= 0 ? WORD : NAME;
            if (kind == NAME) {
                char[] chars = new char[n];
                for (int i = 0; i < n; i++) {
                    chars[i] = (char) byteAt(at + i);
                }
                name = new String(chars);
            }
            at = end;
        }

        private boolean lexKey() {
            int end = at + 1;
            for (int g = 0; g < TAPE && letter(byteAt(end)); g++) {
                end++;
            }
            int k = wordIn(KEYS, text, at + 1, end - at - 1);
            if (k < 0) {
                return false;
            }
            kind = KEY;
            id = k;
            at = end;
            return true;
        }

        private void lexSign() {
            for (int n = Math.min(5, size - at); n > 0; n--) {
                int k = wordIn(SIGNS, text, at, n);
                if (k >= 0) {
                    kind = SIGN;
                    id = k;
                    at += n;
                    return;
                }
            }
            fail(1, at);
        }

        private static int digitOf(int c) {
            if (digit(c)) {
                return c - '0';
            }
            return letter(c) ? (c | 32) - 'a' + 10 : -1;
        }

        private void lexNumber() {
            int first = at;
            int end = at;
            for (int g = 0; g < TAPE && digit(byteAt(end)); g++) {
                if (end - first == 60) {
                    fail(1, end);
                    return;
                }
                end++;
            }
            int radix = 10;
            if (byteAt(end) == 'r') {
                radix = radixOf(first, end);
                if (radix == 0) {
                    fail(1, first);
                    return;
                }
                first = end + 1;
                end = behindDigits(first, radix);
                if (end < 0) {
                    return;
                }
            }
            kit.clear();
            for (int i = first; i < end; i++) {
                kit.scaleUp(radix, digitOf(byteAt(i)));
            }
            lit = kit.stored(1);
            if (lit == null) {
                fail(1, at);
                return;
            }
            kind = NUMBER;
            at = end;
        }

        /** The radix that these digits are, 0: none. */
        private int radixOf(int from, int to) {
            int radix = 0;
            for (int i = from; i < to; i++) {
                radix = Math.min(1000, radix * 10 + byteAt(i) - '0');
            }
            return radix < 2 || radix > 36 ? 0 : radix;
        }

        /** Where the letters and digits that begin here end; -1 with a fault. */
        private int behindDigits(int first, int radix) {
            int end = first;
            for (int g = 0; g < TAPE && digitOf(byteAt(end)) >= 0; g++) {
                if (end - first == 60 || digitOf(byteAt(end)) >= radix) {
                    fail(1, end);
                    return -1;
                }
                end++;
            }
            if (end == first) {
                fail(1, end);
                return -1;
            }
            return end;
        }

        private void lexQuoted(int quote) {
            byte[] b = kit.image;
            int n = 0;
            int i = at + 1;
            for (int g = 0; g < TAPE && fault == 0; g++) {
                int c = byteAt(i);
                if (c == quote) {
                    takeQuoted(quote, b, n);
                    at = i + 1;
                    return;
                }
                int length = 1;
                if (c == '\\') {
                    c = escaped(i);
                    length = byteAt(i + 1) == 'x' ? 4 : 2;
                } else if (c < 32 || c > 126) {
                    fail(1, Math.min(i, size));
                }
                if (fault == 0 && n == 200) {
                    fail(1, i);
                }
                if (fault == 0) {
                    b[n] = (byte) c;
                    n++;
                    i += length;
                }
            }
        }

        private void takeQuoted(int quote, byte[] b, int n) {
            if (quote == '"') {
                kind = TEXT;
                lit = Val.text(Arrays.copyOf(b, n), 0, n);
                return;
            }
            kind = SET;
            lit = Kit.emptySet();
            for (int k = 0; k < n; k++) {
                lit.put(b[k] & 255);
            }
        }

        /** The byte that the \ at i and what stands behind it mean. */
        private int escaped(int i) {
            int c = byteAt(i + 1);
            if (c == '\\' || c == '"' || c == 39) {
                return c;
            }
            if (c == 'n') {
                return 10;
            }
            if (c == 't') {
                return 9;
            }
            if (c != 'x') {
                fail(1, Math.min(i + 1, size));
                return 0;
            }
            int high = digitOf(byteAt(i + 2));
            if (high < 0 || high > 15) {
                fail(1, Math.min(i + 2, size));
                return 0;
            }
            int low = digitOf(byteAt(i + 3));
            if (low < 0 || low > 15) {
                fail(1, Math.min(i + 3, size));
                return 0;
            }
            return high * 16 + low;
        }

        // ---- items

        /** Takes word by word. */
        void read() {
            advance();
            for (int g = 0; g < LOOPS && fault == 0 && state != READ; g++) {
                boolean used;
                if (state == EXPRESSION) {
                    used = left == null ? operand() : behind();
                } else if (state > EXPRESSION) {
                    used = wanted();
                } else if (state >= PARTS) {
                    used = inProcedure();
                } else {
                    used = state < TITLE ? item() : head();
                }
                if (used && fault == 0) {
                    advance();
                }
            }
        }

        /** Goes on there if this is the sign. */
        private boolean takes(int sign, int then) {
            if (!isSign(sign)) {
                fail(2, place);
                return false;
            }
            state = then;
            return true;
        }

        private boolean atName() {
            if (semi || kind != NAME) {
                fail(2, place);
                return false;
            }
            return true;
        }

        private Node nameNode() {
            Node n = new Node(Node.NAME, 0, place);
            n.name = name;
            return n;
        }

        private boolean item() {
            switch (state) {
                case GLOBAL_NAME:
                    return globalName();
                case GLOBAL_NEXT:
                    if (!isSign(COMMA)) {
                        state = ITEM_END;
                        return false;
                    }
                    state = GLOBAL_NAME;
                    return true;
                default:
                    if (isEnd()) {
                        state = READ;
                        return false;
                    }
                    return isSign(SEMI) || state == ITEM_END ? takes(SEMI, ITEM) : beginItem();
            }
        }

        private boolean beginItem() {
            if (isWord(GLOBAL)) {
                proc = new Proc("", Proc.GLOBALS);
                program.items.add(proc);
                state = GLOBAL_NAME;
            } else if (isWord(RECORD) || isWord(PROCEDURE)) {
                state = TITLE;
                proc = new Proc("", id == RECORD ? Proc.MAKER : Proc.SOURCE);
            } else {
                fail(2, place);
            }
            return true;
        }

        private boolean globalName() {
            if (!atName()) {
                return false;
            }
            if (program.taken(name)) {
                fail(3, place);
            } else if (program.globals.size() >= 60) {
                fail(4, place);
            }
            Node n = nameNode();
            program.globals.add(n);
            proc.names.add(n);
            state = GLOBAL_NEXT;
            return true;
        }

        /** The first line of a record or procedure. */
        private boolean head() {
            switch (state) {
                case TITLE:
                    return title();
                case TITLE_OPEN:
                    return takes(LPAR, LIST_FIRST);
                case LIST_FIRST:
                    if (isSign(RPAR)) {
                        return endList();
                    }
                    state = LIST_NAME;
                    return false;
                case LIST_NAME:
                    return proc.kind == Proc.MAKER ? fieldName() : ownName(proc.names, LIST_NEXT);
                case LIST_NEXT:
                    if (isSign(RPAR)) {
                        return endList();
                    }
                    if (isSign(LBRACKET) && proc.kind == Proc.SOURCE) {
                        state = LIST_REST;
                        return true;
                    }
                    return takes(COMMA, LIST_NAME);
                case LIST_REST:
                    proc.rest = true;
                    return takes(RBRACKET, LIST_LAST);
                case LIST_LAST:
                    return isSign(RPAR) ? endList() : takes(RPAR, LIST_LAST);
                default:
                    return takes(SEMI, PARTS);
            }
        }

        private boolean title() {
            if (!atName()) {
                return false;
            }
            boolean record = proc.kind == Proc.MAKER;
            ArrayList<Proc> list = record ? program.records : program.procs;
            if (program.taken(name)) {
                fail(3, place);
            } else if (list.size() >= (record ? 20 : 40)) {
                fail(4, place);
            }
            proc = Proc.make(name, proc.kind, list.size());
            proc.place = place;
            list.add(proc);
            program.items.add(proc);
            state = TITLE_OPEN;
            return true;
        }

        private boolean endList() {
            proc.params = proc.names.size();
            state = proc.kind == Proc.MAKER ? ITEM_END : HEAD_END;
            return true;
        }

        private boolean fieldName() {
            if (!atName()) {
                return false;
            }
            if (Proc.find(proc.names, name) >= 0) {
                fail(3, place);
            } else if (proc.names.size() >= 8) {
                fail(4, place);
            }
            proc.names.add(nameNode());
            state = LIST_NEXT;
            return true;
        }

        /** A NAME of the procedure's list, locals or statics. */
        private boolean ownName(ArrayList<Node> list, int then) {
            if (!atName()) {
                return false;
            }
            if (Proc.find(proc.names, name) >= 0 || Proc.find(proc.statics, name) >= 0) {
                fail(3, place);
            } else if (proc.names.size() + proc.statics.size() >= 30) {
                fail(4, place);
            }
            list.add(nameNode());
            state = then;
            return true;
        }

        private boolean inProcedure() {
            switch (state) {
                case PARTS:
                    return beginPart();
                case OWN_LOCAL:
                    return ownName(proc.names, LOCAL_NEXT);
                case OWN_STATIC:
                    return ownName(proc.statics, STATIC_NEXT);
                case LOCAL_NEXT:
                    return isSign(COMMA) ? takes(COMMA, OWN_LOCAL) : takes(SEMI, PARTS);
                case STATIC_NEXT:
                    return isSign(COMMA) ? takes(COMMA, OWN_STATIC) : takes(SEMI, PARTS);
                case BODY:
                    return inBody();
                case INITIAL_END:
                    return takes(SEMI, BODY);
                case BODY_END:
                    if (isWord(END)) {
                        state = BODY;
                        return false;
                    }
                    return takes(SEMI, BODY);
                default:
                    if (!isEnd()) {
                        fail(2, place);
                    }
                    state = READ;
                    return false;
            }
        }

        private boolean beginPart() {
            if (isSign(SEMI)) {
                return true;
            }
            if (isWord(LOCAL) || isWord(STATIC)) {
                state = isWord(LOCAL) ? OWN_LOCAL : OWN_STATIC;
                return true;
            }
            if (isWord(INITIAL)) {
                barred++;
                beginExpression();
                return true;
            }
            state = BODY;
            return false;
        }

        private boolean inBody() {
            if (proc.body == null) {
                proc.body = new Node(Node.BRACE, 0, 0);
            }
            if (isSign(SEMI)) {
                return true;
            }
            if (isWord(END)) {
                state = ITEM_END;
                return true;
            }
            beginExpression();
            return false;
        }

        void startGoal(Proc goal) {
            proc = goal;
            barred = 1;
            beginExpression();
        }

        void resolveGoal(Proc goal, Program of) {
            for (int i = 0; fault == 0 && i < program.nodes.size(); i++) {
                Node n = program.nodes.get(i);
                n.id = -1;
                if (n.kind == Node.NAME) {
                    resolveName(n, goal, of);
                    if (goal.names.size() > 60) {
                        fail(4, n.place);
                    }
                }
            }
        }

        void resolve() {
            for (int i = 0; fault == 0 && i < program.procs.size(); i++) {
                Proc p = program.procs.get(i);
                p.told = p.names.size();
                p.staticBase = program.staticCount;
                program.staticCount += p.statics.size();
            }
            for (int i = 0; fault == 0 && i < program.nodes.size(); i++) {
                Node n = program.nodes.get(i);
                if (n.kind == Node.NAME && n.proc >= 0 && n.proc < program.procs.size()) {
                    resolveName(n, program.procs.get(n.proc), program);
                }
            }
            for (int i = 0; i < program.procs.size(); i++) {
                Proc p = program.procs.get(i);
                if (p.names.size() + p.statics.size() > 60) {
                    fail(4, p.place);
                }
            }
        }

        private void resolveName(Node n, Proc p, Program of) {
            n.scope = Node.IN_CALL;
            n.slot = Proc.find(p.names, n.name);
            if (n.slot >= 0) {
                return;
            }
            int k = Proc.find(p.statics, n.name);
            if (k >= 0) {
                n.scope = Node.IN_STATICS;
                n.slot = p.staticBase + k;
                return;
            }
            k = of.global(n.name, kit);
            if (k >= 0) {
                n.scope = Node.IN_GLOBALS;
                n.slot = k;
                return;
            }
            n.slot = p.names.size();
            Node local = new Node(Node.NAME, 0, n.place);
            local.name = n.name;
            p.names.add(local);
        }

        // ---- expressions

        private void beginExpression() {
            top = 0;
            open = 0;
            left = null;
            loop = null;
            state = EXPRESSION;
        }

        /** The expression is whole. */
        private void endExpression() {
            if (proc.kind == Proc.GOAL) {
                proc.first = left;
                state = GOAL_END;
            } else if (proc.body == null) {
                proc.first = left;
                barred--;
                state = INITIAL_END;
            } else {
                proc.body.add(left);
                state = BODY_END;
            }
        }

        /** A word that something open wants behind another one. */
        private boolean wanted() {
            if (state == WANT_FIELD) {
                if (atName()) {
                    left.name = name;
                }
                state = EXPRESSION;
                return true;
            }
            if (state == WANT_BRACE && isSign(LBRACE)) {
                countOpen();
            }
            return takes(state == WANT_BRACE ? LBRACE : COLON, EXPRESSION);
        }

        private void register(Node n) {
            if (program.nodes.size() >= MOST_NODES) {
                fail(4, n.place);
                return;
            }
            n.id = program.nodes.size();
            n.proc = proc == null ? 0 : proc.index;
            program.nodes.add(n);
        }

        private Node newNode(int nodeKind, int op) {
            Node n = new Node(nodeKind, op, place);
            register(n);
            return n;
        }

        private static boolean isOpen(int type) {
            return type >= 20 || type == 3 || type == 10 || type == 12;
        }

        private void push(int type, Node n) {
            if (isOpen(type)) {
                countOpen();
            }
            if (top >= types.length) {
                fail(4, place);
                return;
            }
            types[top] = type;
            nodes[top] = n;
            loops[top] = loop;
            top++;
        }

        private void countOpen() {
            open++;
            if (open > MOST_OPEN) {
                fail(4, place);
            }
        }

        private void pop() {
            if (top <= 0) {
                return;
            }
            top--;
            loop = loops[top];
            if (isOpen(types[top])) {
                open--;
            }
            if (types[top] == CREATED) {
                barred--;
            }
        }

        private boolean begins() {
            if (semi || kind == NONE) {
                return false;
            }
            if (kind == SIGN) {
                return id == LPAR || id == LBRACE || id == LBRACKET || id < 64 && (PREFIXES >>> id & 1) != 0;
            }
            return kind != WORD || (BEGINNERS >>> id & 1) != 0;
        }

        private boolean operand() {
            if (!begins()) {
                return instead();
            }
            if (kind == SIGN) {
                openSign();
            } else if (kind == WORD) {
                openWord();
            } else {
                Node n = newNode(kind - 1, kind == KEY ? id : 0);
                n.name = kind == NAME ? name : null;
                n.lit = lit;
                left = n;
            }
            return true;
        }

        private void openSign() {
            if (id == LPAR) {
                push(PAREN, new Node(Node.EMPTY, 0, place));
            } else if (id == LBRACE) {
                push(SEQUENCE, newNode(Node.BRACE, 0));
            } else if (id == LBRACKET) {
                push(ELEMENTS, newNode(Node.LIST, 0));
            } else {
                push(12, newNode(Node.OP, id));
            }
        }

        private void openWord() {
            if (id == NOT) {
                push(12, newNode(Node.OP, NOT_SIGN));
                return;
            }
            Node n = newNode(Node.WORD, id);
            push(contextOf(id), n);
            boolean leaves = id == RETURN || id == SUSPEND || id == FAIL;
            boolean jumps = id == BREAK || id == NEXT;
            if (leaves && barred > 0 || jumps && loop == null) {
                fail(5, place);
            }
            if (id == FAIL || id == NEXT) {
                n.loop = loop;
                pop();
                left = n;
            } else if (id == BREAK) {
                n.loop = loop;
                loop = loop == null ? null : loop.loop;
            } else if (id == CREATE) {
                loop = null;
                barred++;
            } else {
                n.loop = loop;
                if (id == REPEAT) {
                    loop = n;
                }
            }
        }

        private static int contextOf(int word) {
            switch (word) {
                case IF:
                    return IF_CONDITION;
                case WHILE:
                case UNTIL:
                case EVERY:
                    return LOOP_CONDITION;
                case REPEAT:
                    return REPEATED;
                case CASE:
                    return CASE_OF;
                case CREATE:
                    return CREATED;
                case SUSPEND:
                    return SUSPENDED;
                default:
                    return RETURNED;
            }
        }

        private Node omitted() {
            return new Node(Node.OMITTED, 0, place);
        }

        /** The word can't begin an expression where one may begin: what it may be then. */
        private boolean instead() {
            int type = top > 0 ? types[top - 1] : 0;
            Node n = top > 0 ? nodes[top - 1] : null;
            if (n == null) {
                fail(2, place);
                return false;
            }
            boolean list = type == ARGUMENTS || type == ELEMENTS;
            boolean row = type == SEQUENCE || type == CASE_KEY;
            if ((type == RETURNED || type == SUSPENDED) && n.kids == 0) {
                shut(n);
                return false;
            }
            if (isSign(RPAR) && type == PAREN) {
                register(n);
                shut(n);
            } else if (isSign(RPAR) && type == ARGUMENTS || isSign(RBRACKET) && type == ELEMENTS) {
                if (n.kids > (type == ARGUMENTS ? 1 : 0)) {
                    n.add(omitted());
                }
                shut(n);
            } else if (isSign(COMMA) && list) {
                n.add(omitted());
            } else if (isSign(RBRACE) && row) {
                open -= type == CASE_KEY ? 1 : 0;
                shut(n);
            } else if (isWord(DEFAULT) && type == CASE_KEY) {
                byDefault(n);
            } else if (!isSign(SEMI) || !row) {
                fail(2, place);
            }
            return true;
        }

        private void byDefault(Node n) {
            if (n.slot == 1) {
                fail(3, place);
            }
            n.slot = 1;
            n.add(omitted());
            types[top - 1] = CASE_VALUE;
            state = WANT_COLON;
        }

        private void shut(Node n) {
            pop();
            left = n;
        }

        /** Goes on to another part of what is open. */
        private void turn(int type, Node n) {
            n.add(left);
            types[top - 1] = type;
            left = null;
        }

        /** Goes on behind an operand. */
        private boolean behind() {
            if (!semi && kind == SIGN) {
                if (id == LPAR || id == LBRACKET) {
                    Node n = newNode(id == LPAR ? Node.CALL : Node.SUB, 0);
                    n.add(left);
                    left = null;
                    push(id == LPAR ? ARGUMENTS : PLACE, n);
                    return true;
                }
                if (id == DOT) {
                    Node n = newNode(Node.FIELD, 0);
                    n.add(left);
                    left = n;
                    state = WANT_FIELD;
                    return true;
                }
                if (id < RANKS.length && RANKS[id] > 0) {
                    infix(RANKS[id], id);
                    return true;
                }
            }
            if (isWord(TO)) {
                infix(4, TO_SIGN);
                return true;
            }
            return isWord(BY) && by() || close();
        }

        private void infix(int rank, int op) {
            reduce(rank == 3 || rank == 10 ? rank + 1 : rank);
            Node n = newNode(Node.OP, op);
            n.add(left);
            left = null;
            push(rank, n);
        }

        /** by goes with a to that may stand around expressions which end in front of it. */
        private boolean by() {
            for (int g = 0; g < 1000; g++) {
                reduce(5);
                Node n = top > 0 ? nodes[top - 1] : null;
                if (n != null && types[top - 1] == 4 && n.op == TO_SIGN && n.kids == 1) {
                    turn(4, n);
                    return true;
                }
                reduce(1);
                if (top == 0 || !mayEnd(types[top - 1])) {
                    return false;
                }
                n = nodes[top - 1];
                n.add(left);
                shut(n);
            }
            return false;
        }

        private static boolean mayEnd(int type) {
            return type > IF_CONDITION && type != CASE_OF && type != CASE_KEY && type != CASE_VALUE;
        }

        /** Ends all operators of this rank and behind it. */
        private void reduce(int rank) {
            for (int g = 0; g < 1000 && top > 0 && types[top - 1] < 20 && types[top - 1] >= rank; g++) {
                Node n = nodes[top - 1];
                n.add(left);
                left = n;
                pop();
            }
        }

        /** The word goes on with something open, or ends it; if nothing is open it ends all. */
        private boolean close() {
            for (int g = 0; g < 1000 && fault == 0; g++) {
                reduce(1);
                if (top == 0) {
                    endExpression();
                    return false;
                }
                int type = types[top - 1];
                Node n = nodes[top - 1];
                if (type < IF_CONDITION || type == CASE_KEY || type == CASE_VALUE) {
                    goOn(type, n);
                    return true;
                }
                if (goOnWord(type, n)) {
                    return true;
                }
                n.add(left);
                shut(n);
            }
            return false;
        }

        private void goOn(int type, Node n) {
            boolean list = type == ARGUMENTS || type == ELEMENTS;
            boolean mid = type == PLACE && !semi && kind == SIGN && id >= COLON && id <= MINUSCOLON;
            if (type == PAREN && isSign(RPAR)) {
                pop();
            } else if (list && isSign(COMMA)) {
                turn(type, n);
            } else if (type == ARGUMENTS && isSign(RPAR) || isSign(RBRACKET) && (type == ELEMENTS || type == PLACE || type == PLACES)) {
                n.add(left);
                shut(n);
            } else if (mid) {
                n.op = id;
                turn(PLACES, n);
            } else if (type == SEQUENCE && isSign(SEMI)) {
                turn(type, n);
            } else if (type == CASE_KEY && isSign(COLON)) {
                turn(CASE_VALUE, n);
            } else if (type == CASE_VALUE && isSign(SEMI)) {
                turn(CASE_KEY, n);
            } else if ((type == SEQUENCE || type == CASE_VALUE) && isSign(RBRACE)) {
                n.add(left);
                open -= type == CASE_VALUE ? 1 : 0;
                shut(n);
            } else {
                fail(2, place);
            }
        }

        /** Whether the word goes on with this one; if it does not and can't, it is a fault. */
        private boolean goOnWord(int type, Node n) {
            if (type == IF_CONDITION) {
                if (isWord(THEN)) {
                    turn(IF_THEN, n);
                } else {
                    fail(2, place);
                }
                return true;
            }
            if (type == CASE_OF) {
                if (isWord(OF)) {
                    turn(CASE_KEY, n);
                    state = WANT_BRACE;
                } else {
                    fail(2, place);
                }
                return true;
            }
            if (type == IF_THEN && isWord(ELSE)) {
                turn(IF_ELSE, n);
                return true;
            }
            if (type == LOOP_CONDITION && isWord(DO)) {
                loop = n;
                turn(LOOP_BODY, n);
                return true;
            }
            if (type == SUSPENDED && isWord(DO)) {
                turn(SUSPEND_BODY, n);
                return true;
            }
            return false;
        }
    }

    /** What all runs of a house share: fixed values, numbers' and texts' work places, what was used up. */
    private static final class Kit {
        private static final int BASE = 1000000000;
        /** Wholes below this in size are kept in a long. */
        private static final long SMALL = 1000000000000000000L;
        private static final int LIMBS = 16;
        static final int LETTERS = 0;
        static final int DIGITS = 1;
        static final int LOWER = 2;
        static final int UPPER = 3;
        static final int ALL = 4;
        static final int OPENING = 5;
        static final int CLOSING = 6;
        static final int BLANK = 7;
        static final int ZERO = 8;
        static final int ONE = 9;
        static final int RANDOM = 10;
        static final int ERROR = 11;
        static final int KINDS = 12;
        // Where the work places of each kind begin.
        private static final int WHOLES = 4;
        private static final int BIG_WHOLES = 7;
        private static final int SETS = 10;

        final Val nul = new Val(Val.NULL);
        final Val empty = Val.text(new byte[0], 0, 0);
        final Val[] singles = new Val[256];
        /** Values and cells that never change. */
        final Val[] fixed = new Val[22];
        final Proc[] library = new Proc[BUILT_INS];
        /** What values are looked at as: texts, wholes, big wholes, sets. */
        private final Val[] work = new Val[13];
        private int[] x = new int[LIMBS];
        private int[] y = new int[LIMBS];
        private final int[] z = new int[LIMBS];
        final byte[] image = new byte[2100];
        int imageSize;
        /** The results of the operands that are looked at, and their values; null: it has none any more. */
        Val[] args = new Val[32];
        Val[] vals = new Val[32];
        /** The values of operands that are made by looking, a whole and a text for each operand. */
        private Val[] loose = new Val[64];
        int argCount;
        final Thing bag = Thing.make(Val.GROUP);
        /** What is called. */
        Val called;
        int cells;
        int steps;
        /** The number and the wrong value of the latest act that could not be done. */
        int breakNumber;
        Val breakValue;

        Kit() {
            byte[] bytes = new byte[256];
            for (int i = 0; i < 256; i++) {
                bytes[i] = (byte) i;
                singles[i] = Val.text(bytes, i, 1);
            }
            startWork();
            for (int i = 0; i < BUILT_INS; i++) {
                library[i] = Proc.make(wordOf(BUILT_IN, i), Proc.LIBRARY, i);
            }
            fixed[LETTERS] = range('A', 'Z', 'a', 'z');
            fixed[DIGITS] = range('0', '9', '0', '9');
            fixed[LOWER] = range('a', 'z', 'a', 'z');
            fixed[UPPER] = range('A', 'Z', 'A', 'Z');
            fixed[ALL] = range(0, 255, 0, 255);
            fixed[OPENING] = range('(', '(', '(', '(');
            fixed[CLOSING] = range(')', ')', ')', ')');
            fixed[BLANK] = range(32, 32, 32, 32);
            fixed[ZERO] = Val.whole(0);
            fixed[ONE] = Val.whole(1);
            fixed[RANDOM] = new Val(Val.RANDOM);
            fixed[ERROR] = new Val(Val.ERROR);
            for (int i = Val.NULL; i <= Val.PART; i++) {
                fixed[KINDS + i] = Val.word(kindName(i));
            }
            breakValue = nul;
            called = nul;
        }

        private void startWork() {
            for (int i = 0; i < work.length; i++) {
                if (i < WHOLES) {
                    work[i] = Val.text(new byte[520], 0, 0);
                } else {
                    work[i] = new Val(i < SETS ? Val.WHOLE : Val.SET);
                    work[i].big = i >= BIG_WHOLES && i < SETS ? new int[7] : null;
                    work[i].bits = i >= SETS ? new long[4] : null;
                    work[i].in = work[i];
                }
            }
        }

        private static Val range(int a, int b, int c, int d) {
            Val v = emptySet();
            for (int i = 0; i < 256; i++) {
                if (i >= a && i <= b || i >= c && i <= d) {
                    v.put(i);
                }
            }
            return v;
        }

        static Val emptySet() {
            Val v = new Val(Val.SET);
            v.bits = new long[4];
            return v;
        }

        int breaks(int number, Val wrong) {
            breakNumber = number;
            breakValue = wrong;
            return BROKE;
        }

        private static Val[] doubled(Val[] row) {
            Val[] more = new Val[2 * row.length];
            System.arraycopy(row, 0, more, 0, row.length);
            return more;
        }

        /** The work place for a whole or text that operand at has as its value. */
        Val passing(int at, int kind) {
            int k = 2 * at + (kind == Val.TEXT ? 1 : 0);
            Val v = k >= 0 && k < loose.length ? loose[k] : null;
            if (v == null) {
                v = new Val(kind);
                v.in = v;
                if (k >= 0 && k < loose.length) {
                    loose[k] = v;
                }
            }
            return v;
        }

        void arg(Val result, Val value) {
            if (argCount >= args.length) {
                args = doubled(args);
                vals = doubled(vals);
                loose = doubled(loose);
            }
            args[argCount] = result;
            vals[argCount] = value;
            argCount++;
        }

        /** Whether one of these operands has no value any more. */
        boolean isStale(int from, int to) {
            for (int i = from; i < to; i++) {
                if (vals[i] == null) {
                    breaks(19, nul);
                    return true;
                }
            }
            return false;
        }

        // ---- what an operand's value is looked at as, at a work place if it is not so; null: BREAKS

        Val whole(Val v, int place) {
            if (v != null && v.kind == Val.WHOLE) {
                return v;
            }
            boolean text = v != null && (v.kind == Val.TEXT || v.kind == Val.SET);
            int sign = text ? wholeIn(asText(v, 3)) : 0;
            if (sign == 0) {
                breaks(v == null ? 19 : 1, v == null ? nul : v);
                return null;
            }
            boolean small = isSmall(x);
            Val w = work[(small ? WHOLES : BIG_WHOLES) + place];
            w.num = small ? sign * ((long) x[1] * BASE + x[0]) : sign;
            if (w.big != null) {
                System.arraycopy(x, 0, w.big, 0, w.big.length);
            }
            return w;
        }

        Val text(Val v, int place) {
            Val t = v == null ? null : asText(v, place);
            if (t == null) {
                breaks(v == null ? 19 : 2, v == null ? nul : v);
            }
            return t;
        }

        Val set(Val v, int place) {
            if (v != null && v.kind == Val.SET) {
                return v;
            }
            Val t = v == null ? null : asText(v, 3);
            if (t == null) {
                breaks(v == null ? 19 : 3, v == null ? nul : v);
                return null;
            }
            Val s = work[SETS + place];
            if (s.bits != null) {
                Arrays.fill(s.bits, 0);
            }
            for (int i = 0; i < t.len; i++) {
                s.put(t.at(i));
            }
            return s;
        }

        /** Argument i of a built-in procedure, or other if it lacks or is NULL; null: it has no value any more. */
        Val given(int i, Val other) {
            Val v = i + 1 < argCount ? vals[i + 1] : nul;
            return v != null && v.kind == Val.NULL ? other : v;
        }

        boolean lacks(int i) {
            Val v = i + 1 < argCount ? vals[i + 1] : nul;
            return v != null && v.kind == Val.NULL;
        }

        /** Any value as argument i; null: BREAKS. */
        Val look(int i) {
            Val v = given(i, nul);
            if (v == null) {
                breaks(19, nul);
            }
            return v;
        }

        Thing list(Val v) {
            if (v == null || v.kind != Val.LIST) {
                breaks(v == null ? 19 : 5, v == null ? nul : v);
                return null;
            }
            return v.thing;
        }

        // ---- wholes

        void clear() {
            Arrays.fill(x, 0);
        }

        void scaleUp(int by, int plus) {
            long carry = plus;
            for (int i = 0; i < LIMBS; i++) {
                long t = (long) x[i] * by + carry;
                x[i] = (int) (t % BASE);
                carry = t / BASE;
            }
        }

        Val stored(int sign) {
            return store(sign, x);
        }

        /** Whether the whole of these limbs has 60 digits at most. */
        private static boolean fits(int[] limbs) {
            int high = 0;
            for (int i = 7; i < limbs.length; i++) {
                high |= limbs[i];
            }
            return high == 0 && limbs[6] < 1000000;
        }

        /** Whether it is below 10^18. */
        private static boolean isSmall(int[] limbs) {
            return (limbs[2] | limbs[3] | limbs[4] | limbs[5] | limbs[6]) == 0;
        }

        /** The whole of these limbs; null: it has more than 60 digits. */
        private static Val store(int sign, int[] from) {
            if (!fits(from)) {
                return null;
            }
            Val v = new Val(Val.WHOLE);
            if (isSmall(from)) {
                v.num = sign * ((long) from[1] * BASE + from[0]);
            } else {
                v.num = sign;
                v.big = Arrays.copyOf(from, 7);
            }
            return v;
        }

        /** Puts a whole's size into these limbs; its sign. */
        private static int load(Val v, int[] to) {
            int[] big = v.big;
            for (int i = 0; i < LIMBS; i++) {
                to[i] = big != null && i < big.length ? big[i] : 0;
            }
            if (big == null) {
                long m = v.num < 0 ? -v.num : v.num;
                to[0] = (int) (m % BASE);
                to[1] = (int) (m / BASE);
            }
            return v.num < 0 ? -1 : 1;
        }

        private static int compareSizes(int[] a, int[] b) {
            for (int i = LIMBS - 1; i >= 0; i--) {
                if (a[i] != b[i]) {
                    return a[i] < b[i] ? -1 : 1;
                }
            }
            return 0;
        }

        int compare(Val a, Val b) {
            if (a.big == null && b.big == null) {
                return Long.compare(a.num, b.num);
            }
            int s = load(a, x);
            int t = load(b, y);
            if (s != t) {
                return s < t ? -1 : 1;
            }
            return s * compareSizes(x, y);
        }

        static int signOf(Val v) {
            return Long.signum(v.num);
        }

        /** a and b together, or with turn -1 a without b; null: more than 60 digits. */
        Val add(Val a, Val b, int turn) {
            if (a.big == null && b.big == null) {
                long r = a.num + turn * b.num;
                if (r > -SMALL && r < SMALL) {
                    return Val.whole(r);
                }
            }
            int s = load(a, x);
            int t = load(b, y) * turn;
            if (s == t) {
                long carry = 0;
                for (int i = 0; i < LIMBS; i++) {
                    long sum = carry + x[i] + y[i];
                    x[i] = (int) (sum % BASE);
                    carry = sum / BASE;
                }
                return store(s, x);
            }
            if (compareSizes(x, y) >= 0) {
                takeAway(x, y);
                return store(s, x);
            }
            takeAway(y, x);
            return store(t, y);
        }

        private static void takeAway(int[] from, int[] what) {
            int borrow = 0;
            for (int i = 0; i < LIMBS; i++) {
                int t = from[i] - what[i] - borrow;
                borrow = t < 0 ? 1 : 0;
                from[i] = t < 0 ? t + BASE : t;
            }
        }

        Val times(Val a, Val b) {
            if (a.big == null && b.big == null && Math.abs(a.num) < BASE && Math.abs(b.num) < BASE) {
                return Val.whole(a.num * b.num);
            }
            int sign = load(a, x) * load(b, y);
            multiply();
            return store(sign, z);
        }

        /** z becomes x times y, both of 60 digits at most. */
        private void multiply() {
            Arrays.fill(z, 0);
            for (int i = 0; i < 7; i++) {
                long carry = 0;
                for (int k = 0; k < 7; k++) {
                    long t = (long) x[i] * y[k] + z[i + k] + carry;
                    z[i + k] = (int) (t % BASE);
                    carry = t / BASE;
                }
                z[i + 7] = (int) carry;
            }
        }

        /** a to the power of n, which is 0 .. 255; null: more than 60 digits. The wholes on the way lie in rows. */
        Val power(Val a, int n) {
            Arrays.fill(x, 0);
            x[0] = 1;
            for (int bit = 7; bit >= 0; bit--) {
                System.arraycopy(x, 0, y, 0, LIMBS);
                multiply();
                System.arraycopy(z, 0, x, 0, LIMBS);
                if (fits(x) && (n >> bit & 1) != 0) {
                    load(a, y);
                    multiply();
                    System.arraycopy(z, 0, x, 0, LIMBS);
                }
                if (!fits(x)) {
                    return null;
                }
            }
            return store(signOf(a) < 0 && (n & 1) != 0 ? -1 : 1, x);
        }

        /** a divided by b, which is not 0, cut towards 0; with rest what is left. */
        Val divide(Val a, Val b, boolean rest) {
            if (a.big == null && b.big == null && b.num != 0) {
                return Val.whole(rest ? a.num % b.num : a.num / b.num);
            }
            int s = load(a, x);
            int t = load(b, y);
            divideSizes();
            return rest ? store(s, x) : store(s * t, z);
        }

        private static int sizeOf(int[] a) {
            for (int i = LIMBS - 1; i >= 0; i--) {
                if (a[i] != 0) {
                    return i + 1;
                }
            }
            return 0;
        }

        /** z becomes x divided by y, x what is left. */
        private void divideSizes() {
            int n = sizeOf(y);
            int m = sizeOf(x);
            Arrays.fill(z, 0);
            if (n == 0) {
                return;
            }
            if (n == 1) {
                int r = cutBy(x, y[0], z);
                Arrays.fill(x, 0);
                x[0] = r;
                return;
            }
            int scale = (int) (BASE / (y[n - 1] + 1L));
            scaleBy(x, scale);
            scaleBy(y, scale);
            for (int k = Math.min(m - n, LIMBS - n - 1); k >= 0; k--) {
                z[k] = digitAt(k, n);
            }
            cutBy(x, scale, x);
            cutBy(y, scale, y);
        }

        private static void scaleBy(int[] a, int by) {
            long carry = 0;
            for (int i = 0; i < LIMBS; i++) {
                long t = (long) a[i] * by + carry;
                a[i] = (int) (t % BASE);
                carry = t / BASE;
            }
        }

        /** to becomes a divided by a small number, which is not 0; what is left. */
        private static int cutBy(int[] a, int by, int[] to) {
            long r = 0;
            for (int i = LIMBS - 1; i >= 0 && by != 0; i--) {
                long t = r * BASE + a[i];
                to[i] = (int) (t / by);
                r = t % by;
            }
            return (int) r;
        }

        /** The digit at place k of x divided by y of n limbs, which is taken away from x so often. */
        private int digitAt(int k, int n) {
            long high = y[n - 1];
            if (high == 0) {
                return 0;
            }
            long top = (long) x[k + n] * BASE + x[k + n - 1];
            long q = top / high;
            long r = top % high;
            for (int g = 0; g < 4 && r < BASE && (q >= BASE || q * y[n - 2] > r * BASE + x[k + n - 2]); g++) {
                q--;
                r += high;
            }
            long carry = 0;
            long borrow = 0;
            for (int i = 0; i <= n; i++) {
                long p = i < n ? q * y[i] + carry : carry;
                carry = p / BASE;
                long t = x[i + k] - borrow - p % BASE;
                borrow = t < 0 ? 1 : 0;
                x[i + k] = (int) (t < 0 ? t + BASE : t);
            }
            if (borrow != 0) {
                q--;
                carry = 0;
                for (int i = 0; i <= n; i++) {
                    long t = carry + x[i + k] + (i < n ? y[i] : 0);
                    x[i + k] = (int) (t % BASE);
                    carry = t / BASE;
                }
            }
            return (int) q;
        }

        Val gcd(Val a, Val b) {
            load(a, x);
            load(b, y);
            for (int g = 0; g < 1000 && sizeOf(y) > 0; g++) {
                divideSizes();
                int[] t = x;
                x = y;
                y = t;
            }
            return store(1, x);
        }

        int digitSum(Val v) {
            load(v, x);
            int sum = 0;
            for (int i = 0; i < LIMBS; i++) {
                for (int k = x[i]; k > 0; k /= 10) {
                    sum += k % 10;
                }
            }
            return sum;
        }

        /** Puts the digits of the whole in x into a row; how many bytes these are. */
        private int digits(int sign, byte[] to) {
            int n = 0;
            if (sign < 0) {
                to[0] = '-';
                n = 1;
            }
            boolean on = false;
            for (int i = 6; i >= 0; i--) {
                int d = 100000000;
                for (int k = 0; k < 9; k++) {
                    int c = x[i] / d % 10;
                    d /= 10;
                    on = on || c != 0 || i == 0 && k == 8;
                    if (on && n < to.length) {
                        to[n] = (byte) ('0' + c);
                        n++;
                    }
                    if (d == 0) {
                        d = 1;
                    }
                }
            }
            return n;
        }

        /** Puts the size of the whole that a text is into x; its sign, 0: it is none. */
        private int wholeIn(Val t) {
            if (t == null) {
                return 0;
            }
            int i = 0;
            for (int g = 0; g < t.len && t.at(i) == ' ' && i < t.len; g++) {
                i++;
            }
            int sign = 1;
            if (i < t.len && (t.at(i) == '+' || t.at(i) == '-')) {
                sign = t.at(i) == '-' ? -1 : 1;
                i++;
            }
            int first = i;
            int nine = 0;
            int scale = 1;
            Arrays.fill(x, 0);
            for (int g = 0; g < 61 && i < t.len && t.at(i) >= '0' && t.at(i) <= '9'; g++) {
                nine = nine * 10 + t.at(i) - '0';
                scale *= 10;
                i++;
                if (scale == BASE) {
                    scaleUp(scale, nine);
                    nine = 0;
                    scale = 1;
                }
            }
            scaleUp(scale, nine);
            int n = i - first;
            for (int g = 0; g < t.len && i < t.len && t.at(i) == ' '; g++) {
                i++;
            }
            return n < 1 || n > 60 || i < t.len ? 0 : sign;
        }

        /** A whole for places and numbers of bytes. */
        static long near(Val whole) {
            if (whole.big != null) {
                return whole.num < 0 ? -BASE : BASE;
            }
            return Math.max(-BASE, Math.min(BASE, whole.num));
        }

        // ---- texts and sets

        /** A value as a text, at this work place if it is none itself; null: it is none. */
        Val asText(Val v, int place) {
            if (v.kind == Val.TEXT) {
                return v;
            }
            if (v.kind != Val.WHOLE && v.kind != Val.SET || place < 0 || place >= work.length) {
                return null;
            }
            Val t = work[place];
            t.len = 0;
            if (v.kind == Val.WHOLE) {
                t.len = digits(load(v, x), t.bytes);
            } else {
                for (int i = 0; i < 256; i++) {
                    if (v.bits != null && v.bits[i >> 6] == 0) {
                        i |= 63;
                    } else if (v.has(i)) {
                        t.bytes[t.len] = (byte) i;
                        t.len++;
                    }
                }
            }
            return t;
        }

        static int compareTexts(Val a, Val b) {
            for (int i = 0; i < a.len && i < b.len; i++) {
                if (a.at(i) != b.at(i)) {
                    return a.at(i) < b.at(i) ? -1 : 1;
                }
            }
            return Integer.compare(a.len, b.len);
        }

        /** THE ORDER of values. */
        int order(Val a, Val b) {
            if (a.kind != b.kind) {
                return a.kind < b.kind ? -1 : 1;
            }
            switch (a.kind) {
                case Val.NULL:
                    return 0;
                case Val.WHOLE:
                    return compare(a, b);
                case Val.TEXT:
                    return compareTexts(a, b);
                case Val.SET:
                    return compareSets(a, b);
                case Val.PROC:
                    return a.proc == null || b.proc == null ? 0 : compareNames(a.proc.name, b.proc.name);
                default:
                    return a.thing == null || b.thing == null ? 0 : Integer.compare(a.thing.number, b.thing.number);
            }
        }

        /** As texts of rising bytes. */
        private static int compareSets(Val a, Val b) {
            int differs = 0;
            for (int i = 0; i < 256; i++) {
                boolean in = a.has(i);
                boolean other = b.has(i);
                if (differs != 0 && (differs < 0 ? other : in)) {
                    // The one that has not the first byte in question goes on with a higher one.
                    return differs;
                }
                if (differs == 0 && in != other) {
                    differs = in ? -1 : 1;
                }
            }
            return -differs;
        }

        private static int compareNames(String a, String b) {
            for (int i = 0; i < a.length() && i < b.length(); i++) {
                if (a.charAt(i) != b.charAt(i)) {
                    return a.charAt(i) < b.charAt(i) ? -1 : 1;
                }
            }
            return Integer.compare(a.length(), b.length());
        }

        // ---- images

        private void put(int c) {
            if (imageSize < image.length) {
                image[imageSize] = (byte) c;
                imageSize++;
            }
        }

        private void putName(String s) {
            for (int i = 0; i < s.length(); i++) {
                put(s.charAt(i));
            }
        }

        private void putNumber(int n) {
            int d = 1000000000;
            for (int k = 0; k < 10; k++) {
                if (n / d > 0 || d == 1) {
                    put('0' + n / d % 10);
                }
                d = Math.max(1, d / 10);
            }
        }

        private void quoted(Val t, int quote) {
            put(quote);
            for (int i = 0; i < t.len; i++) {
                int c = t.at(i);
                if (c == '\\' || c == quote) {
                    put('\\');
                    put(c);
                } else if (c == 10 || c == 9) {
                    put('\\');
                    put(c == 10 ? 'n' : 't');
                } else if (c < 32 || c > 126) {
                    put('\\');
                    put('x');
                    put(hex(c >> 4));
                    put(hex(c & 15));
                } else {
                    put(c);
                }
            }
            put(quote);
        }

        private static int hex(int d) {
            return d < 10 ? '0' + d : 'a' + d - 10;
        }

        /** Puts the IMAGE of a value that is no whole, text or set into image. */
        void image(Val v) {
            imageSize = 0;
            if (v.kind == Val.NULL) {
                putName("&null");
            } else if (v.kind == Val.PROC) {
                Proc p = v.proc;
                if (p != null) {
                    putName(p.kind == Proc.SOURCE ? "procedure " : p.kind == Proc.MAKER ? "record " : "built-in ");
                    putName(p.name);
                }
            } else {
                imageOfThing(v.thing);
            }
        }

        /** Puts a whole, text or set into image as it is WRITTEN. */
        void literal(Val v) {
            imageSize = 0;
            Val t = asText(v, 3);
            if (t != null && v.kind == Val.WHOLE) {
                for (int i = 0; i < t.len; i++) {
                    put(t.at(i));
                }
            } else if (t != null) {
                quoted(t, v.kind == Val.TEXT ? '"' : 39);
            }
        }

        private void imageOfThing(Thing t) {
            if (t == null) {
                return;
            }
            putName(t.maker == null ? kindName(t.kind) : t.maker.name);
            put('_');
            putNumber(t.number);
            put('(');
            putNumber(t.size);
            put(')');
        }

        /** What a value of this kind is called, if it is no record. */
        private static String kindName(int kind) {
            switch (kind) {
                case Val.NULL:
                    return "null";
                case Val.WHOLE:
                    return "whole";
                case Val.TEXT:
                    return "text";
                case Val.SET:
                    return "set";
                case Val.PROC:
                    return "procedure";
                case Val.LIST:
                    return "list";
                case Val.GROUP:
                    return "group";
                case Val.TABLE:
                    return "table";
                case Val.PART:
                    return "part";
                default:
                    return "record";
            }
        }
    }

    /** A run: what it has, and how it goes on from step to step. */
    private static final class Run {
        // The figures that told() tells, and behind them some of its own.
        static final int STATE = 0;
        static final int DONE_STEPS = 1;
        static final int OUT = 2;
        static final int BREAK_NUMBER = 3;
        static final int BREAK_PLACE = 4;
        static final int THINGS = 5;
        static final int CELLS = 6;
        static final int MADE = 7;
        static final int POS = 8;
        static final int SUBJECT_SIZE = 9;
        static final int DEPTH = 10;
        static final int ERROR = 11;
        static final int RANDOM = 12;
        static final int EVENTS = 13;
        static final int GOAL = 14;
        static final int GOAL_NUMBER = 15;
        static final int READ = 16;
        static final int OUTCOME = 17;

        static final int GOAL_NONE = 0;
        static final int GOAL_NEW = 1;
        static final int GOAL_OPEN = 2;
        static final int GOAL_CUT = 3;

        // What comes next.
        private static final int IDLE = 0;
        private static final int BEGIN = 1;
        private static final int RESUME = 2;
        private static final int GIVES = 3;
        private static final int FAILS = 4;
        private static final int LOOKS = 5;
        private static final int LEAVES = 6;
        private static final int JUMPS = 7;
        private static final int ENTER = 8;
        // The acts, and what they come to first.
        private static final int ACT = 10;
        static final int PREFIX = 11;
        static final int SPECIAL = 12;
        static final int PLAIN_ACT = 13;
        static final int AUGMENTED = 14;
        static final int ASSIGNING = 15;
        static final int SWAPPING = 16;
        static final int ELEMENT = 17;
        static final int BETWEEN = 18;
        static final int BUILDING = 19;
        static final int APPLYING = 20;
        static final int CALLING = 21;
        static final int CALL_WHOLE = 22;
        static final int CALL_SOURCE = 23;
        static final int CALL_MAKER = 24;
        static final int CALL_SCAN = 25;
        static final int CALL_WRITE = 26;
        static final int CALL_CONVERT = 27;
        static final int CALL_THINGS = 28;
        static final int CALL_SORT = 29;
        static final int CALL_TEXTS = 30;
        static final int CALL_NUMBERS = 31;
        static final int CALL_EXTREME = 32;
        static final int MORE = 33;
        static final int PUT_BACK = 34;

        // What is counted of a node.
        private static final int BEGUN = 0;
        private static final int RESUMED = 1;
        private static final int GIVEN = 2;
        private static final int FAILURES = 3;

        // EVENTS.
        private static final int CALLED = 1;
        private static final int RETURNS = 2;
        private static final int SUSPENDS = 3;
        private static final int CALL_FAILED = 4;
        private static final int CALL_RESUMED = 5;

        static final int MOST_EVENTS = 300;
        private static final int MOST_OUT = 6000;
        private static final int MOST_MADE = 100000;
        static final int LONGEST = 500;
        private static final int MOST_CELLS = 6000;
        private static final int MOST_CELLS_OF_ALL = 40000;
        private static final int MOST_THINGS = 1000;
        static final int DEEPEST = 60;

        final Kit kit;
        Program program;
        final int[] told = new int[18];
        private int seed;
        byte[] input;
        final byte[] out = new byte[MOST_OUT];
        final int[] events = new int[4 * MOST_EVENTS];
        final int[] counts = new int[6000];
        private Val[] globals = new Val[0];
        private Val[] statics = new Val[0];
        private boolean[] initiated = new boolean[40];
        private final ArrayList<Thing> things = new ArrayList<Thing>();
        private byte[] made;
        private Scan base;
        Val errorNumber;
        Val errorValue;
        private int mode;
        private Frame cur;
        /** The part that is active. */
        Thing active;
        private Frame goalFrame;
        /** The latest result of the goal. */
        private Val result;

        Run(Kit kit) {
            this.kit = kit;
        }

        // ---- begin and end

        void load(Program p, int lowest, byte[] lines) {
            program = p;
            seed = lowest;
            input = lines;
        }

        void start() {
            Arrays.fill(told, 0);
            Arrays.fill(counts, 0);
            told[STATE] = 1;
            told[BREAK_PLACE] = NO;
            told[RANDOM] = seed;
            things.clear();
            base = new Scan(kit.empty);
            errorNumber = kit.nul;
            errorValue = kit.nul;
            active = null;
            goalFrame = null;
            result = null;
            mode = IDLE;
            cur = null;
            startCells();
            callMain();
        }

        private void startCells() {
            int g = program.globals.size();
            int p = program.procs.size();
            int n = program.records.size();
            globals = cleared(globals, g + p + n + BUILT_INS);
            for (int i = 0; i < p; i++) {
                globals[g + i].in = program.procs.get(i).val;
            }
            for (int i = 0; i < n; i++) {
                globals[g + p + i].in = program.records.get(i).val;
            }
            for (int i = 0; i < BUILT_INS; i++) {
                globals[g + p + n + i].in = kit.library[i].val;
            }
            statics = cleared(statics, program.staticCount);
            for (int i = 0; i < initiated.length; i++) {
                initiated[i] = false;
            }
        }

        /** These cells, as many as are wanted at least, all NULL. */
        private Val[] cleared(Val[] old, int n) {
            Val[] row = old.length >= n ? old : new Val[n];
            for (int i = 0; i < row.length; i++) {
                if (row[i] == null) {
                    row[i] = i < old.length && old[i] != null ? old[i] : Val.cell(kit.nul);
                }
                row[i].in = kit.nul;
            }
            return row;
        }

        private void callMain() {
            Proc p = program.mainProc();
            if (p == null) {
                told[STATE] = 0;
                return;
            }
            int n = p.names.size();
            Frame f = new Frame(null, null);
            Val[] cells = new Val[n];
            for (int i = 0; i < n; i++) {
                cells[i] = Val.cell(kit.nul);
            }
            take(n);
            if (p.rest && p.params >= 1 && p.params <= n) {
                cells[p.params - 1].in = keep(Thing.row(Val.LIST, 0), 0).self;
            }
            f.call = new Call(p, cells, 1, f);
            f.scan = base;
            log(CALLED, f.call);
            mode = ENTER;
            cur = f;
        }

        /** The run has ENDED. */
        private void finish() {
            told[STATE] = 0;
            mode = IDLE;
            cur = null;
        }

        void stop() {
            leaveParts();
            finish();
        }

        private void leaveParts() {
            for (int g = 0; g < LOOPS && active != null; g++) {
                active.state = Thing.OVER;
                active = active.prior;
            }
        }

        boolean inGoal() {
            return told[STATE] == 0;
        }

        // ---- goals

        void setGoal(Proc goal) {
            told[GOAL_NUMBER]++;
            result = null;
            goalFrame = null;
            told[GOAL] = GOAL_NONE;
            if (goal == null || goal.first == null) {
                return;
            }
            Val[] cells = new Val[goal.names.size()];
            for (int i = 0; i < cells.length; i++) {
                cells[i] = Val.cell(kit.nul);
            }
            Frame f = new Frame(null, null);
            f.state = Frame.GOAL;
            f.call = new Call(goal, cells, 0, f);
            f.scan = base;
            f.inner = new Frame(goal.first, f);
            goalFrame = f;
            told[GOAL] = GOAL_NEW;
        }

        void toNextResult() {
            if (goalFrame == null) {
                return;
            }
            if (told[GOAL] != GOAL_CUT) {
                mode = told[GOAL] == GOAL_NEW ? BEGIN : RESUME;
                cur = goalFrame.inner;
            }
            told[GOAL] = GOAL_CUT;
            told[OUTCOME] = 3;
        }

        private void goalEnds(int outcome) {
            told[OUTCOME] = outcome;
            told[GOAL] = outcome == 1 ? GOAL_OPEN : GOAL_NONE;
            mode = IDLE;
            cur = null;
        }

        // ---- what is told

        int figure(int what) {
            Scan s = cur == null ? base : cur.scan;
            switch (what) {
                case POS:
                    return s == null ? 1 : s.pos;
                case SUBJECT_SIZE:
                    return s == null ? 0 : s.subject.len;
                case DEPTH:
                    return cur == null || cur.call == null ? 0 : cur.call.depth;
                default:
                    return what >= 0 && what < told.length ? told[what] : BAD;
            }
        }

        Thing thingAt(int k) {
            return k < 1 || k > things.size() ? null : things.get(k - 1);
        }

        /** What is to be shown; null: there is none such. */
        Val look(int what, int k, int i) {
            Scan s = cur == null ? base : cur.scan;
            Thing t = thingAt(k);
            switch (what) {
                case 0:
                    return k < 0 || k >= program.globals.size() || k >= globals.length ? null : globals[k].in;
                case 1:
                    return result;
                case 2:
                    Val e = t == null ? null : t.element(i);
                    return e == null || !e.isCell() ? e : e.in;
                case 3:
                    int slot = t == null || t.kind != Val.TABLE ? -1 : t.nth(i);
                    return slot < 0 || slot >= t.keys.length ? null : t.keys[slot];
                case 4:
                    return s == null ? null : s.subject;
                case 5:
                    return errorValue;
                default:
                    return errorNumber;
            }
        }

        private void log(int kind, Call c) {
            int k = told[EVENTS];
            if (k < MOST_EVENTS) {
                events[4 * k] = kind;
                events[4 * k + 1] = c.proc.index;
                events[4 * k + 2] = c.depth;
                events[4 * k + 3] = told[DONE_STEPS];
            }
            told[EVENTS] = k + 1;
        }

        private void tally(Frame f, int what) {
            int k = f.node == null || f.node.id < 0 ? -1 : 4 * f.node.id + what;
            if (k >= 0 && k < counts.length) {
                counts[k]++;
            }
        }

        // ---- cells, things and texts

        /** Whether there is room for so many things and cells. */
        boolean room(int moreThings, int moreCells) {
            if (told[THINGS] + moreThings > MOST_THINGS) {
                kit.breaks(15, kit.nul);
                return false;
            }
            if (told[CELLS] + moreCells > MOST_CELLS || kit.cells + moreCells > MOST_CELLS_OF_ALL) {
                kit.breaks(14, kit.nul);
                return false;
            }
            return true;
        }

        boolean roomForThing() {
            if (told[THINGS] >= MOST_THINGS) {
                kit.breaks(15, kit.nul);
                return false;
            }
            return true;
        }

        void take(int cells) {
            told[CELLS] += cells;
            kit.cells += cells;
        }

        /** A thing is there from now on, with so many cells. */
        Thing keep(Thing t, int cells) {
            take(cells);
            things.add(t);
            told[THINGS]++;
            t.number = told[THINGS];
            return t;
        }

        /** A text of so many bytes, which are put then; null: BREAKS. */
        Val make(int bytes) {
            if (bytes < 0 || bytes > LONGEST || told[MADE] + bytes > MOST_MADE) {
                kit.breaks(13, kit.nul);
                return null;
            }
            if (made == null) {
                made = new byte[MOST_MADE];
            }
            Val t = new Val(Val.TEXT);
            t.bytes = made;
            t.off = told[MADE];
            t.len = bytes;
            told[MADE] += bytes;
            return t;
        }

        /** Puts bytes of one text into another. */
        static void copy(Val from, int i, Val to, int k, int n) {
            int a = from.off + i;
            int b = to.off + k;
            if (n > 0 && a >= 0 && b >= 0 && a + n <= from.bytes.length && b + n <= to.bytes.length) {
                System.arraycopy(from.bytes, a, to.bytes, b, n);
            }
        }

        /** The text t, MADE if its value was none; null: BREAKS. */
        Val madeOf(Val value, Val t) {
            if (value.kind == Val.TEXT) {
                return t.lasting();
            }
            Val m = make(t.len);
            if (m != null) {
                copy(t, 0, m, 0, t.len);
            }
            return m;
        }

        // ---- results and their values

        /** The value of a result, which may lie at the work place of operand at; null: BREAKS. */
        Val value(Val r, int at) {
            Val c = r.kind == Val.SECTION ? r.in : r;
            Val v = c;
            switch (c.kind) {
                case Val.CELL:
                    v = c.in;
                    break;
                case Val.COMING:
                    int k = c.thing.find(c.in);
                    v = k < 0 ? c.thing.other : c.thing.items[k].in;
                    break;
                case Val.SUBJECT:
                    return c.scan.subject;
                case Val.POS:
                case Val.RANDOM:
                case Val.ERROR:
                    v = kit.passing(at, Val.WHOLE);
                    v.num = c.kind == Val.POS ? c.scan.pos : told[c.kind == Val.RANDOM ? RANDOM : ERROR];
                    return v;
                default:
                    break;
            }
            if (r.kind != Val.SECTION) {
                return v;
            }
            if (v.kind != Val.TEXT || v.len < r.off + r.len) {
                kit.breaks(19, kit.nul);
                return null;
            }
            Val t = kit.passing(at, Val.TEXT);
            t.bytes = v.bytes;
            t.off = v.off + r.off;
            t.len = r.len;
            return t;
        }

        // ---- assigning

        int assign(Val c, Val v) {
            switch (c.kind) {
                case Val.CELL:
                    c.in = v.lasting();
                    return GAVE;
                case Val.COMING:
                    return assignComing(c, v.lasting());
                case Val.SECTION:
                    Val old = value(c.in, 0);
                    int before = told[MADE];
                    Val all = old == null ? null : replaced(c, kit.text(v, 0), old);
                    if (all == null || c.in.kind == Val.COMING && assignComing(c.in, all) != GAVE) {
                        told[MADE] = before;
                        return BROKE;
                    }
                    if (c.in.kind == Val.CELL) {
                        c.in.in = all;
                    }
                    c.len += all.len - old.len;
                    return GAVE;
                case Val.SUBJECT:
                    Val t = kit.text(v, 0);
                    Val m = t == null ? null : madeOf(v, t);
                    if (m == null) {
                        return BROKE;
                    }
                    c.scan.subject = m;
                    c.scan.pos = 1;
                    return GAVE;
                case Val.POS:
                    return assignPos(c.scan, kit.whole(v, 0));
                default:
                    return assignNumber(c.kind == Val.RANDOM ? RANDOM : ERROR, kit.whole(v, 0));
            }
        }

        private int assignComing(Val c, Val v) {
            int k = c.thing.find(c.in);
            if (k >= 0) {
                c.thing.items[k].in = v;
                return GAVE;
            }
            if (!room(0, 1)) {
                return BROKE;
            }
            take(1);
            c.thing.makeRoom();
            c.thing.add(c.in, Val.cell(v));
            return GAVE;
        }

        /** The text old with a section's bytes replaced; null: BREAKS. */
        private Val replaced(Val c, Val t, Val old) {
            if (t == null) {
                return null;
            }
            if (old.kind != Val.TEXT || old.len < c.off + c.len) {
                kit.breaks(19, kit.nul);
                return null;
            }
            Val all = make(old.len - c.len + t.len);
            if (all != null) {
                copy(old, 0, all, 0, c.off);
                copy(t, 0, all, c.off, t.len);
                copy(old, c.off + c.len, all, c.off + t.len, old.len - c.off - c.len);
            }
            return all;
        }

        private int assignPos(Scan s, Val w) {
            if (w == null) {
                return BROKE;
            }
            int p = placeIn(Kit.near(w), s.subject.len);
            if (p == 0) {
                return FAILED;
            }
            s.pos = p;
            return GAVE;
        }

        private int assignNumber(int which, Val w) {
            if (w == null) {
                return BROKE;
            }
            if (w.big != null || w.num < 0 || w.num > (which == RANDOM ? Integer.MAX_VALUE : 1000)) {
                return kit.breaks(20, kit.nul);
            }
            told[which] = (int) w.num;
            return GAVE;
        }

        /** A place in a text of so many bytes, as 1 .. size + 1; 0: it is none. */
        static int placeIn(long i, int size) {
            if (i >= 1 && i <= size + 1) {
                return (int) i;
            }
            return i <= 0 && i >= -size ? (int) (size + 1 + i) : 0;
        }

        // ---- from step to step

        /** Goes on for so many steps, and with what needs no step behind the last one. */
        void go(int n) {
            int left = n;
            for (int g = 0; g < LOOPS && mode != IDLE && cur != null; g++) {
                Frame f = cur;
                if (mode < ACT) {
                    left -= mode == BEGIN || mode == RESUME ? 1 : 0;
                    if (left < 0) {
                        return;
                    }
                    control(f);
                } else if (mode == ASSIGNING) {
                    settle(f, Acts.assigning(this, f));
                } else if (mode == SWAPPING) {
                    settle(f, Acts.swap(this, f));
                } else if (mode == APPLYING) {
                    settle(f, Acts.applied(this, f));
                } else if (mode == CALL_SCAN) {
                    settle(f, Acts.scan(this, f));
                } else if (mode == PUT_BACK) {
                    settle(f, Acts.putBack(this, f));
                } else if (mode >= CALLING) {
                    settle(f, performCall(f));
                } else {
                    settle(f, perform(f));
                }
            }
        }

        private int perform(Frame f) {
            switch (mode) {
                case ACT:
                    return Acts.gather(this, f);
                case PREFIX:
                    return Acts.prefix(this, f);
                case SPECIAL:
                    return Acts.special(this, f);
                case PLAIN_ACT:
                    return Acts.plain(this, f);
                case AUGMENTED:
                    return Acts.augmented(kit, f, Acts.plain(this, f));
                case ELEMENT:
                    return Acts.element(this, f);
                case BETWEEN:
                    return Acts.between(this, f);
                default:
                    return Acts.building(this, f);
            }
        }

        private int performCall(Frame f) {
            switch (mode) {
                case CALLING:
                    return Acts.wayToCall(this, kit.vals[0]);
                case CALL_WHOLE:
                    return Acts.chosen(kit, f);
                case CALL_SOURCE:
                    return Acts.callSource(this, f);
                case CALL_MAKER:
                    return Acts.makeRecord(this, f);
                case CALL_WRITE:
                    return Acts.write(this, f);
                case CALL_CONVERT:
                    return Acts.convert(this, f);
                case CALL_THINGS:
                    return Acts.things(this, f);
                case CALL_SORT:
                    return Acts.sort(this, f);
                case CALL_TEXTS:
                    return Acts.texts(this, f);
                case CALL_NUMBERS:
                    return Acts.numbers(this, f);
                case CALL_EXTREME:
                    return Acts.extreme(kit, f);
                default:
                    return Acts.more(this, f);
            }
        }

        private void control(Frame f) {
            switch (mode) {
                case BEGIN:
                case RESUME:
                    kit.steps++;
                    told[DONE_STEPS]++;
                    tally(f, mode == BEGIN ? BEGUN : RESUMED);
                    if (mode == BEGIN) {
                        begin(f);
                    } else {
                        resume(f);
                    }
                    break;
                case GIVES:
                    tally(f, GIVEN);
                    gave(f, f.up);
                    break;
                case FAILS:
                    tally(f, FAILURES);
                    failed(f, f.up);
                    break;
                case LOOKS:
                    gaveValue(f, f.up);
                    break;
                case LEAVES:
                    leave(f);
                    break;
                case JUMPS:
                    jump(f, f.node);
                    break;
                default:
                    enter(f, f.call);
            }
        }

        /** return, suspend without an expression, and fail. */
        private void leave(Frame f) {
            if (f.node.op == RETURN) {
                doReturn(f.call, kit.nul);
            } else if (f.node.op == SUSPEND) {
                doSuspend(f, kit.nul);
            } else {
                callFails(f.call);
            }
        }

        private void turnTo(int what, Frame f) {
            mode = what;
            cur = f;
        }

        private void give(Frame f, Val v) {
            f.res = v;
            turnTo(GIVES, f);
        }

        private void again(Frame f) {
            turnTo(RESUME, f);
        }

        /** The act has no more: the last operand is resumed. */
        private void noMore(Frame f) {
            f.inner = null;
            f.state = Frame.OPERANDS;
            mode = f.last == null ? FAILS : RESUME;
            cur = f.last == null ? f : f.last;
        }

        private void settle(Frame f, int code) {
            if (code == GAVE) {
                turnTo(GIVES, f);
            } else if (code == FAILED) {
                noMore(f);
            } else if (code >= ACT) {
                turnTo(code, f);
            } else if (code == BROKE && allowed(f, f)) {
                noMore(f);
            }
        }

        /** Whether &error lets what BREAKS at f fail; else it is broken, in the surroundings of where. */
        private boolean allowed(Frame f, Frame where) {
            int number = kit.breakNumber;
            if (told[ERROR] > 0) {
                told[ERROR]--;
                errorNumber = Val.whole(number);
                errorValue = number == 4 || number >= 11 ? kit.nul : kit.breakValue.lasting();
                return true;
            }
            told[BREAK_NUMBER] = number;
            told[BREAK_PLACE] = f.node == null ? NO : f.node.place;
            if (inGoal()) {
                leaveParts();
                goalEnds(2);
            } else {
                told[STATE] = 2;
                turnTo(IDLE, where);
            }
            return false;
        }

        private void operand(Frame f, Node kid) {
            Frame c = new Frame(kid, f);
            c.prev = f.last;
            f.last = c;
            turnTo(BEGIN, c);
        }

        private Frame inner(Frame f, Node kid, int state) {
            Frame c = new Frame(kid, f);
            f.inner = c;
            f.state = state;
            turnTo(BEGIN, c);
            return c;
        }

        /** Begins the operand that comes now, or the act. */
        private void operands(Frame f, Node kid) {
            Node k = kid;
            for (int g = 0; g < LOOPS && k != null && k.kind == Node.OMITTED; g++) {
                k = k.next;
            }
            if (k == null) {
                turnTo(ACT, f);
            } else {
                operand(f, k);
            }
        }

        private void begin(Frame f) {
            Node n = f.node;
            f.state = Frame.ONE;
            switch (n.kind) {
                case Node.NAME:
                    give(f, cellOf(f, n));
                    break;
                case Node.NUMBER:
                case Node.TEXT:
                case Node.SET:
                    give(f, n.lit);
                    break;
                case Node.KEY:
                    beginKey(f, n.op);
                    break;
                case Node.EMPTY:
                    give(f, kit.nul);
                    break;
                case Node.OP:
                    beginOperator(f, n);
                    break;
                case Node.BRACE:
                    if (n.kid == null) {
                        give(f, kit.nul);
                    } else {
                        inSequence(f, n.kid);
                    }
                    break;
                case Node.WORD:
                    beginWord(f, n);
                    break;
                default:
                    f.state = Frame.OPERANDS;
                    operands(f, n.kid);
            }
        }

        private Val cellOf(Frame f, Node n) {
            Val[] row = n.scope == Node.IN_GLOBALS ? globals : n.scope == Node.IN_STATICS ? statics : f.call.cells;
            return n.slot >= 0 && n.slot < row.length ? row[n.slot] : kit.nul;
        }

        private void beginKey(Frame f, int key) {
            switch (key) {
                case 0:
                    give(f, kit.nul);
                    break;
                case 1:
                    turnTo(FAILS, f);
                    break;
                case 2:
                    give(f, f.scan.cellOf(Val.SUBJECT));
                    break;
                case 3:
                    give(f, f.scan.cellOf(Val.POS));
                    break;
                case 4:
                    give(f, kit.fixed[Kit.RANDOM]);
                    break;
                case 5:
                    give(f, kit.fixed[Kit.ERROR]);
                    break;
                case 6:
                    give(f, errorNumber);
                    break;
                case 7:
                    give(f, errorValue);
                    break;
                default:
                    give(f, kit.fixed[Math.max(0, Math.min(Kit.ALL, key - 8))]);
            }
        }

        private void beginOperator(Frame f, Node n) {
            if (n.op == BAR) {
                f.i = 0;
                inner(f, n.kid, n.kids == 1 ? Frame.AGAIN : Frame.PASS);
            } else if (n.op == NOT_SIGN) {
                inner(f, n.kid, Frame.NEGATED);
            } else {
                f.state = Frame.OPERANDS;
                operands(f, n.op == BACKSLASH && n.kids == 2 ? n.kid.next : n.kid);
            }
        }

        private void inSequence(Frame f, Node kid) {
            inner(f, kid, kid.next == null ? Frame.PASS : Frame.SEQUENCE);
        }

        private void beginWord(Frame f, Node n) {
            switch (n.op) {
                case IF:
                case WHILE:
                case UNTIL:
                case CASE:
                    inner(f, n.kid, Frame.CONDITION);
                    break;
                case EVERY:
                    f.state = Frame.CONDITION;
                    operand(f, n.kid);
                    break;
                case REPEAT:
                    inner(f, n.kid, Frame.BODY);
                    break;
                case CREATE:
                    turnTo(ACT, f);
                    break;
                case RETURN:
                    if (n.kid == null) {
                        turnTo(LEAVES, f);
                    } else {
                        inner(f, n.kid, Frame.CONDITION);
                    }
                    break;
                case SUSPEND:
                    if (n.kid == null) {
                        turnTo(LEAVES, f);
                    } else {
                        f.state = Frame.CONDITION;
                        operand(f, n.kid);
                    }
                    break;
                case FAIL:
                    turnTo(LEAVES, f);
                    break;
                default:
                    turnTo(JUMPS, f);
            }
        }

        /** break and next. */
        private void jump(Frame f, Node n) {
            Frame loop = f.up;
            for (int g = 0; g < LOOPS && loop != null && loop.node != n.loop; g++) {
                loop = loop.up;
            }
            if (loop == null) {
                turnTo(FAILS, f);
                return;
            }
            loop.inner = null;
            if (n.op == NEXT) {
                goOnLoop(loop);
                return;
            }
            loop.last = null;
            if (n.kid == null) {
                loop.state = Frame.ONE;
                give(loop, kit.nul);
            } else {
                inner(loop, n.kid, Frame.PASS);
            }
        }

        private void goOnLoop(Frame loop) {
            loop.inner = null;
            if (loop.node.op == REPEAT) {
                inner(loop, loop.node.kid, Frame.BODY);
            } else if (loop.node.op == EVERY) {
                loop.state = Frame.CONDITION;
                if (loop.last == null) {
                    turnTo(FAILS, loop);
                } else {
                    again(loop.last);
                }
            } else {
                inner(loop, loop.node.kid, Frame.CONDITION);
            }
        }

        private void resume(Frame f) {
            switch (f.state) {
                case Frame.LIMIT:
                    if (f.i <= 0 || f.inner == null) {
                        noMore(f);
                    } else {
                        again(f.inner);
                    }
                    break;
                case Frame.PASS:
                case Frame.SCANNING:
                case Frame.AGAIN:
                    if (f.inner == null) {
                        noMore(f);
                    } else {
                        again(f.inner);
                    }
                    break;
                case Frame.SUSPENDED:
                    goOnCall(f, f.inner);
                    break;
                case Frame.MORE:
                    turnTo(f.more == Acts.PUT_BACK || f.more == Acts.PUT_BOTH_BACK ? PUT_BACK : MORE, f);
                    break;
                default:
                    noMore(f);
            }
        }

        // ---- a part of p gave a result, or failed

        private void gave(Frame c, Frame p) {
            if (p == null) {
                turnTo(IDLE, c);
                return;
            }
            switch (p.state) {
                case Frame.PASS:
                    give(p, c.res);
                    break;
                case Frame.CALL:
                case Frame.INIT:
                    nextStatement(c, p);
                    break;
                case Frame.SEQUENCE:
                    inSequence(p, c.node.next);
                    break;
                case Frame.LIMIT:
                    p.i--;
                    give(p, c.res);
                    break;
                case Frame.NEGATED:
                    p.inner = null;
                    turnTo(FAILS, p);
                    break;
                case Frame.AGAIN:
                    p.i = 1;
                    give(p, c.res);
                    break;
                case Frame.CONDITION:
                    conditionGave(c, p);
                    break;
                case Frame.BODY:
                    bodyDone(p);
                    break;
                case Frame.SCANNING:
                case Frame.PART:
                case Frame.GOAL:
                    turnTo(LOOKS, c);
                    break;
                default:
                    Node n = p.node;
                    boolean one = n.kind == Node.OP && (n.op == SCAN || n.op == BACKSLASH);
                    operands(p, one ? null : c.node.next);
            }
        }

        private void failed(Frame c, Frame p) {
            if (p == null) {
                turnTo(IDLE, c);
                return;
            }
            switch (p.state) {
                case Frame.PASS:
                    if (p.node.kind == Node.OP && c.node.next != null) {
                        inner(p, c.node.next, Frame.PASS);
                    } else {
                        p.inner = null;
                        turnTo(FAILS, p);
                    }
                    break;
                case Frame.CALL:
                case Frame.INIT:
                    nextStatement(c, p);
                    break;
                case Frame.SEQUENCE:
                    inSequence(p, c.node.next);
                    break;
                case Frame.SCANNING:
                case Frame.LIMIT:
                    noMore(p);
                    break;
                case Frame.NEGATED:
                    p.inner = null;
                    p.state = Frame.ONE;
                    give(p, kit.nul);
                    break;
                case Frame.AGAIN:
                    if (p.i == 0) {
                        turnTo(FAILS, p);
                    } else {
                        p.i = 0;
                        inner(p, c.node, Frame.AGAIN);
                    }
                    break;
                case Frame.CONDITION:
                    conditionFailed(c, p);
                    break;
                case Frame.BODY:
                    bodyDone(p);
                    break;
                case Frame.PART:
                    partFailed(p);
                    break;
                case Frame.GOAL:
                    goalEnds(0);
                    break;
                default:
                    p.last = c.prev;
                    noMore(p);
            }
        }

        /** A scanning, case, return, suspend, part or goal looks at what c gave. */
        private void gaveValue(Frame c, Frame p) {
            if (p == null || c.res == null) {
                turnTo(IDLE, c);
                return;
            }
            Val looked = value(c.res, 0);
            Val v = looked == null ? null : looked.lasting();
            if (v == null) {
                if (allowed(p.node == null ? c : p, c)) {
                    again(c);
                }
            } else if (p.state == Frame.SCANNING) {
                give(p, v);
            } else if (p.state == Frame.GOAL) {
                result = v;
                goalEnds(1);
            } else if (p.state == Frame.PART) {
                partGave(v);
            } else if (p.node.op == RETURN) {
                doReturn(p.call, v);
            } else if (p.node.op == SUSPEND) {
                doSuspend(p, v);
            } else {
                caseGave(c, p, v);
            }
        }

        private void conditionGave(Frame c, Frame p) {
            Node b = c.node.next;
            switch (p.node.op) {
                case IF:
                    inner(p, b, Frame.PASS);
                    break;
                case UNTIL:
                    p.inner = null;
                    turnTo(FAILS, p);
                    break;
                case WHILE:
                case EVERY:
                    if (b == null) {
                        goOnLoop(p);
                    } else {
                        inner(p, b, Frame.BODY);
                    }
                    break;
                default:
                    turnTo(LOOKS, c);
            }
        }

        private void conditionFailed(Frame c, Frame p) {
            Node b = c.node.next;
            switch (p.node.op) {
                case IF:
                    if (b == null || b.next == null) {
                        turnTo(FAILS, p);
                    } else {
                        inner(p, b.next, Frame.PASS);
                    }
                    break;
                case UNTIL:
                    if (b == null) {
                        goOnLoop(p);
                    } else {
                        inner(p, b, Frame.BODY);
                    }
                    break;
                case RETURN:
                    callFails(p.call);
                    break;
                case CASE:
                    if (c.node == p.node.kid) {
                        turnTo(FAILS, p);
                    } else {
                        nextClause(p, b == null ? null : b.next);
                    }
                    break;
                default:
                    p.inner = null;
                    p.last = null;
                    turnTo(FAILS, p);
            }
        }

        private void bodyDone(Frame p) {
            if (p.node.op == SUSPEND) {
                p.inner = null;
                p.state = Frame.CONDITION;
                again(p.last);
            } else {
                goOnLoop(p);
            }
        }

        private void caseGave(Frame c, Frame p, Val v) {
            if (c.node == p.node.kid) {
                p.a = v;
                nextClause(p, c.node.next);
            } else if (p.a != null && Val.alike(p.a, v)) {
                inner(p, c.node.next, Frame.PASS);
            } else {
                again(c);
            }
        }

        /** Begins the first E of this clause or of the next one that has one. */
        private void nextClause(Frame p, Node clause) {
            Node n = clause;
            for (int g = 0; g < LOOPS && n != null && n.kind == Node.OMITTED; g++) {
                n = n.next == null ? null : n.next.next;
            }
            if (n != null) {
                inner(p, n, Frame.CONDITION);
                return;
            }
            n = p.node.kid.next;
            for (int g = 0; g < LOOPS && n != null && n.kind != Node.OMITTED; g++) {
                n = n.next == null ? null : n.next.next;
            }
            if (n == null || n.next == null) {
                p.inner = null;
                turnTo(FAILS, p);
            } else {
                inner(p, n.next, Frame.PASS);
            }
        }

        // ---- calls

        /** The call that f's act makes, or main's, begins. */
        void enter(Frame f, Call c) {
            Proc p = c.proc;
            int k = p.index;
            if (p.first != null && k >= 0 && k < initiated.length && !initiated[k]) {
                initiated[k] = true;
                inner(f, p.first, Frame.INIT).call = c;
            } else {
                begunBody(f, c);
            }
        }

        private void begunBody(Frame f, Call c) {
            if (c.proc.body == null || c.proc.body.kid == null) {
                callFails(c);
            } else {
                inner(f, c.proc.body.kid, Frame.CALL).call = c;
            }
        }

        private void nextStatement(Frame c, Frame p) {
            if (p.state == Frame.INIT) {
                begunBody(p, c.call);
            } else if (c.node.next == null) {
                callFails(c.call);
            } else {
                inner(p, c.node.next, Frame.CALL).call = c.call;
            }
        }

        void called(Call c) {
            log(CALLED, c);
        }

        private void callFails(Call c) {
            log(CALL_FAILED, c);
            if (c.frame.node == null) {
                finish();
            } else {
                noMore(c.frame);
            }
        }

        private void doReturn(Call c, Val v) {
            log(RETURNS, c);
            c.frame.inner = null;
            c.frame.state = Frame.ONE;
            leaveCall(c.frame, v);
        }

        private void doSuspend(Frame f, Val v) {
            Frame p = f.call.frame;
            log(SUSPENDS, f.call);
            p.inner = f;
            p.state = Frame.SUSPENDED;
            leaveCall(p, v);
        }

        private void leaveCall(Frame f, Val v) {
            if (f.node == null) {
                finish();
            } else {
                give(f, v);
            }
        }

        /** The call is resumed: its suspend goes on. */
        private void goOnCall(Frame f, Frame suspend) {
            if (suspend == null) {
                noMore(f);
                return;
            }
            log(CALL_RESUMED, suspend.call);
            f.state = Frame.CALL;
            Node e = suspend.node.kid;
            if (e == null) {
                turnTo(FAILS, suspend);
            } else if (e.next != null) {
                inner(suspend, e.next, Frame.BODY);
            } else {
                suspend.state = Frame.CONDITION;
                again(suspend.last);
            }
        }

        // ---- parts

        /** f's act begins or resumes a part. */
        int activate(Frame f, Val v) {
            Thing t = v.thing;
            if (v.kind != Val.PART || t == null || t.frame == null) {
                return kit.breaks(7, v);
            }
            if (t.state == Thing.ACTIVE) {
                return kit.breaks(18, kit.nul);
            }
            if (t.state == Thing.OVER || t.goal != 0 && t.goal != told[GOAL_NUMBER]) {
                return FAILED;
            }
            int level = active == null ? 1 : active.level + 1;
            if (level > 60) {
                return kit.breaks(16, kit.nul);
            }
            t.prior = active;
            t.level = level;
            t.waiter = f;
            active = t;
            turnTo(t.state == Thing.NEW ? BEGIN : RESUME, t.frame.inner);
            t.state = Thing.ACTIVE;
            return DONE;
        }

        private void partGave(Val v) {
            Thing t = active;
            if (t == null) {
                turnTo(IDLE, null);
                return;
            }
            t.size++;
            t.state = Thing.WAITS;
            active = t.prior;
            t.waiter.state = Frame.ONE;
            give(t.waiter, v);
        }

        private void partFailed(Frame p) {
            Thing t = active;
            if (t == null) {
                turnTo(IDLE, p);
                return;
            }
            t.state = Thing.OVER;
            active = t.prior;
            noMore(t.waiter);
        }
    }

    /** What the nodes do with their operands. */
    private static final class Acts {
        // What gives more results.
        private static final int COUNT_UP = 1;
        private static final int EACH = 2;
        static final int PUT_BACK = 3;
        static final int PUT_BOTH_BACK = 4;
        private static final int POS_BACK = 5;
        private static final int UP_TO = 6;
        private static final int FIND = 7;
        private static final int BALANCED = 8;
        private static final int SEQUENCE = 9;
        private static final int KEYS_OF = 10;

        // The built-in procedures, as they stand in BUILT_IN.
        private static final int ANY = 0;
        private static final int MANY = 1;
        private static final int UPTO = 2;
        private static final int MATCH = 3;
        private static final int FIND_TEXT = 4;
        private static final int BAL = 5;
        private static final int MOVE = 7;
        private static final int POS = 8;
        private static final int WRITES = 10;
        private static final int STOP = 11;
        private static final int READ = 12;
        private static final int IMAGE = 13;
        private static final int TYPE = 14;
        private static final int PROC = 15;
        private static final int COPY = 16;
        private static final int WHOLE = 17;
        private static final int TEXT = 18;
        private static final int SET = 19;
        private static final int NUMBER = 20;
        private static final int LIST = 21;
        private static final int GROUP = 22;
        private static final int TABLE = 23;
        private static final int PUT = 24;
        private static final int PUSH = 25;
        private static final int GET = 26;
        private static final int PULL = 27;
        private static final int INSERT = 28;
        private static final int DELETE = 29;
        private static final int MEMBER = 30;
        private static final int KEY = 31;
        private static final int SORT = 32;
        private static final int LEFT = 33;
        private static final int RIGHT = 34;
        private static final int CENTER = 35;
        private static final int TRIM = 36;
        private static final int REPL = 37;
        private static final int REVERSE = 38;
        private static final int MAP = 39;
        private static final int CHAR = 40;
        private static final int ORD = 41;
        private static final int SEQ = 42;
        private static final int ABS = 43;
        private static final int MIN = 44;
        private static final int MAX = 45;
        private static final int GCD = 46;

        private Acts() {
        }

        /** Puts the results of f's operands, and their values, in their order into the work rows. */
        static int gather(Run r, Frame f) {
            Kit kit = r.kit;
            boolean one = f.node.kind == Node.OP && (f.node.op == SCAN || f.node.op == BACKSLASH);
            int n = 0;
            int real = 0;
            kit.argCount = 0;
            Node k = f.node.kind == Node.WORD ? null : f.node.kid;
            for (int g = 0; g < LOOPS && k != null; g++) {
                kit.arg(kit.nul, kit.nul);
                n++;
                real += k.kind == Node.OMITTED ? 0 : 1;
                k = one ? null : k.next;
            }
            // The frames stand from the last one on, the nodes from the first one on.
            Frame c = f.last;
            for (int at = n - 1; at >= n - real && c != null; at--) {
                kit.args[at] = c.res;
                c = c.prev;
            }
            k = f.node.kid;
            int at = n - real;
            for (int i = 0; i < n && k != null; i++) {
                if (k.kind == Node.OMITTED) {
                    kit.args[i] = kit.nul;
                } else if (at < n) {
                    kit.args[i] = kit.args[at];
                    at++;
                }
                kit.vals[i] = r.value(kit.args[i], i);
                k = k.next;
            }
            f.state = Frame.ONE;
            return wayOf(kit, f.node);
        }

        /** What the act comes to. */
        private static int wayOf(Kit kit, Node n) {
            if (n.kind == Node.CALL) {
                return Run.CALLING;
            }
            if (n.kind == Node.SUB) {
                return n.kids == 2 ? Run.ELEMENT : Run.BETWEEN;
            }
            if (n.kind != Node.OP) {
                return Run.BUILDING;
            }
            if (n.kids == 1) {
                return Run.PREFIX;
            }
            int op = n.op;
            if (op == SCAN || op == BACKSLASH || op == TO_SIGN || op == AND) {
                return Run.SPECIAL;
            }
            if (op == SWAP || op == SWAPBACK) {
                return Run.SWAPPING;
            }
            if (op == ASSIGN || op == REVERSIBLE) {
                return Run.ASSIGNING;
            }
            if (op >= FIRST_WITH_ASSIGN && op < TO_SIGN) {
                return kit.args[0].isCell() ? Run.AUGMENTED : kit.breaks(4, kit.nul);
            }
            return op == BANG ? Run.APPLYING : Run.PLAIN_ACT;
        }

        /** The acts of fields, new lists and create. */
        static int building(Run r, Frame f) {
            switch (f.node.kind) {
                case Node.FIELD:
                    return field(r, f, r.kit.vals[0]);
                case Node.LIST:
                    return newList(r, f);
                default:
                    return create(r, f);
            }
        }

        private static int gives(Frame f, Val v) {
            if (v == null) {
                return BROKE;
            }
            f.res = v;
            return GAVE;
        }

        private static int givesWhole(Frame f, long n) {
            f.res = Val.whole(n);
            return GAVE;
        }

        private static int starts(Frame f, int more) {
            f.state = Frame.MORE;
            f.more = more;
            return Run.MORE;
        }

        // ---- operators in front

        static int prefix(Run r, Frame f) {
            Kit kit = r.kit;
            Val v = kit.vals[0];
            if (v == null) {
                return kit.breaks(19, kit.nul);
            }
            switch (f.node.op) {
                case DOT:
                    return gives(f, v.lasting());
                case SLASH:
                case BACKSLASH:
                    f.res = kit.args[0];
                    return (v.kind == Val.NULL) == (f.node.op == SLASH) ? GAVE : FAILED;
                case PLUS:
                case MINUS:
                    Val w = kit.whole(v, 0);
                    if (w == null) {
                        return BROKE;
                    }
                    return gives(f, f.node.op == PLUS ? w.lasting() : kit.add(kit.fixed[Kit.ZERO], w, -1));
                case TIMES:
                    return sizeOf(r, f, v);
                case BANG:
                    return each(r, f, v);
                case SCAN:
                    return drawn(r, f, v);
                case AT:
                    return r.activate(f, v);
                case POWER:
                    return anew(r, f, v);
                case TILDE:
                    return others(f, kit.set(v, 0));
                default:
                    return tabMatch(f, kit.text(v, 0));
            }
        }

        private static int others(Frame f, Val s) {
            if (s == null) {
                return BROKE;
            }
            Val o = Kit.emptySet();
            for (int i = 0; i < 4; i++) {
                o.bits[i] = ~s.bits[i];
            }
            return gives(f, o);
        }

        private static int sizeOf(Run r, Frame f, Val v) {
            if (v.kind == Val.SET) {
                return givesWhole(f, v.many());
            }
            if (v.kind >= Val.LIST && v.thing != null) {
                return givesWhole(f, v.thing.size);
            }
            Val t = r.kit.asText(v, 0);
            return t == null ? r.kit.breaks(10, v) : givesWhole(f, t.len);
        }

        private static boolean hasParts(Val v) {
            return v.kind != Val.NULL && v.kind != Val.PROC && v.kind != Val.PART;
        }

        private static int each(Run r, Frame f, Val v) {
            if (!hasParts(v)) {
                return r.kit.breaks(10, v);
            }
            f.a = v.lasting();
            f.i = 0;
            return starts(f, EACH);
        }

        private static int nextOf(Run r, Frame f, Val v) {
            int i = (int) f.i;
            Thing t = v.thing;
            if (t == null) {
                Val s = r.kit.asText(v, 0);
                f.i++;
                return s == null || i >= s.len ? FAILED : gives(f, r.kit.singles[s.at(i)]);
            }
            boolean row = v.kind == Val.LIST || v.kind == Val.RECORD;
            int slot = row ? i : t.from(i);
            Val c = row ? t.cell(i + 1) : t.slotted(slot);
            if (c == null) {
                return FAILED;
            }
            f.i = slot + 1L;
            return gives(f, c);
        }

        private static long draw(Run r, long n) {
            r.told[Run.RANDOM] = (int) (r.told[Run.RANDOM] * 1103515245L + 12345L & 0x7fffffffL);
            return 1 + r.told[Run.RANDOM] / 16 % Math.max(1, n);
        }

        private static int drawn(Run r, Frame f, Val v) {
            if (!hasParts(v)) {
                return r.kit.breaks(10, v);
            }
            if (v.kind == Val.WHOLE) {
                if (Kit.signOf(v) <= 0) {
                    return FAILED;
                }
                return givesWhole(f, draw(r, v.big != null ? Long.MAX_VALUE : v.num));
            }
            if (v.thing != null) {
                return v.thing.size < 1 ? FAILED : gives(f, v.thing.element(draw(r, v.thing.size)));
            }
            Val t = r.kit.asText(v, 0);
            if (t == null || t.len < 1) {
                return FAILED;
            }
            return gives(f, r.kit.singles[t.at((int) draw(r, t.len) - 1)]);
        }

        private static int tabMatch(Frame f, Val t) {
            Scan s = f.scan;
            if (t == null) {
                return BROKE;
            }
            if (!standsAt(s.subject, s.pos - 1, t, s.subject.len)) {
                return FAILED;
            }
            return tabTo(f, s, s.pos + t.len);
        }

        /** Gives the bytes up to this place, where &pos is then. */
        private static int tabTo(Frame f, Scan s, int place) {
            int from = Math.min(s.pos, place);
            int to = Math.max(s.pos, place);
            f.res = Val.text(s.subject.bytes, s.subject.off + from - 1, to - from);
            f.i = s.pos;
            f.state = Frame.MORE;
            f.more = POS_BACK;
            s.pos = place;
            return GAVE;
        }

        private static boolean standsAt(Val s, int i, Val t, int end) {
            if (i < 0 || i + t.len > end) {
                return false;
            }
            for (int k = 0; k < t.len; k++) {
                if (s.at(i + k) != t.at(k)) {
                    return false;
                }
            }
            return true;
        }

        // ---- operators between

        static int special(Run r, Frame f) {
            Kit kit = r.kit;
            switch (f.node.op) {
                case SCAN:
                    return scanning(r, f, kit.vals[0]);
                case BACKSLASH:
                    return limit(r, f, kit.whole(kit.vals[0], 0));
                case TO_SIGN:
                    Val a = kit.whole(kit.vals[0], 0);
                    Val b = a == null ? null : kit.whole(kit.vals[1], 1);
                    Val c = b == null || kit.argCount < 3 ? kit.fixed[Kit.ONE] : kit.whole(kit.vals[2], 2);
                    return b == null || c == null ? BROKE : countUp(kit, f, a, b, c);
                default:
                    return gives(f, kit.args[1]);
            }
        }

        private static int scanning(Run r, Frame f, Val v) {
            Val t = r.kit.text(v, 0);
            Val subject = t == null ? null : r.madeOf(v, t);
            if (subject == null) {
                return BROKE;
            }
            r.inner(f, f.node.kid.next, Frame.SCANNING).scan = new Scan(subject);
            return DONE;
        }

        private static int limit(Run r, Frame f, Val w) {
            if (w == null) {
                return BROKE;
            }
            if (Kit.signOf(w) < 0) {
                return r.kit.breaks(20, r.kit.nul);
            }
            if (Kit.signOf(w) == 0) {
                return FAILED;
            }
            f.i = w.big == null ? w.num : Long.MAX_VALUE;
            r.inner(f, f.node.kid, Frame.LIMIT);
            return DONE;
        }

        private static int countUp(Kit kit, Frame f, Val a, Val b, Val c) {
            if (Kit.signOf(c) == 0) {
                return kit.breaks(11, kit.nul);
            }
            if (beyond(kit.compare(a, b), c)) {
                return FAILED;
            }
            f.a = b.lasting();
            f.b = c.lasting();
            f.state = Frame.MORE;
            f.more = COUNT_UP;
            return gives(f, a.lasting());
        }

        private static boolean beyond(int order, Val step) {
            return Kit.signOf(step) > 0 ? order > 0 : order < 0;
        }

        /** What op made is to be assigned then. */
        static int augmented(Kit kit, Frame f, int code) {
            if (code != GAVE) {
                return code;
            }
            kit.vals[1] = f.res;
            return Run.ASSIGNING;
        }

        /** The operators that make a value of two. */
        static int plain(Run r, Frame f) {
            Kit kit = r.kit;
            Val a = kit.vals[0];
            Val b = kit.vals[1];
            int k = f.node.op - FIRST_WITH_ASSIGN;
            int op = k >= 0 && k < PLAIN.length ? PLAIN[k] : f.node.op;
            if (op == JOINLISTS) {
                return joinLists(r, f, kit.list(a), b);
            }
            if (op >= TEXTLESS && op < ALIKE || op == JOIN) {
                Val s = kit.text(a, 0);
                Val t = s == null ? null : kit.text(b, 1);
                if (t == null) {
                    return BROKE;
                }
                return op == JOIN ? join(r, f, s, t) : compareTexts(r, f, op - TEXTLESS, s, t);
            }
            if (op == ALIKE || op == UNALIKE) {
                return compareValues(kit, f, op);
            }
            if (op == UNION || op == WITHOUT || op == BOTH) {
                boolean group = a != null && a.kind == Val.GROUP;
                return group && b != null && b.kind == Val.GROUP ? combineGroups(r, f, op, a.thing, b.thing) : combineSets(kit, f, op);
            }
            Val v = kit.whole(a, 0);
            Val w = v == null ? null : kit.whole(b, 1);
            if (w == null) {
                return BROKE;
            }
            if (op >= LESS && op < TEXTLESS) {
                return holds(op - LESS, kit.compare(v, w)) ? gives(f, w.lasting()) : FAILED;
            }
            return op == POWER ? power(kit, f, v, w) : reckon(kit, f, op, v, w);
        }

        private static int compareValues(Kit kit, Frame f, int op) {
            Val a = kit.vals[0];
            Val b = kit.vals[1];
            if (a == null || b == null) {
                return kit.breaks(19, kit.nul);
            }
            return Val.alike(a, b) == (op == ALIKE) ? gives(f, b.lasting()) : FAILED;
        }

        /** By the order of the signs: below, not above, the same, not below, above, another one. */
        private static boolean holds(int which, int order) {
            switch (which) {
                case 0:
                    return order < 0;
                case 1:
                    return order <= 0;
                case 2:
                    return order == 0;
                case 3:
                    return order >= 0;
                case 4:
                    return order > 0;
                default:
                    return order != 0;
            }
        }

        private static int compareTexts(Run r, Frame f, int which, Val s, Val t) {
            return holds(which, Kit.compareTexts(s, t)) ? gives(f, r.madeOf(r.kit.vals[1], t)) : FAILED;
        }

        private static int join(Run r, Frame f, Val s, Val t) {
            Val to = r.make(s.len + t.len);
            if (to == null) {
                return BROKE;
            }
            Run.copy(s, 0, to, 0, s.len);
            Run.copy(t, 0, to, s.len, t.len);
            return gives(f, to);
        }

        private static int reckon(Kit kit, Frame f, int op, Val v, Val w) {
            Val to;
            if (op == PLUS || op == MINUS) {
                to = kit.add(v, w, op == PLUS ? 1 : -1);
            } else if (op == TIMES) {
                to = kit.times(v, w);
            } else if (Kit.signOf(w) == 0) {
                return kit.breaks(11, kit.nul);
            } else {
                to = kit.divide(v, w, op == REST);
            }
            return to == null ? kit.breaks(12, kit.nul) : gives(f, to);
        }

        private static int power(Kit kit, Frame f, Val v, Val w) {
            if (Kit.signOf(w) < 0) {
                return FAILED;
            }
            boolean odd = ((w.big == null ? w.num : w.big[0]) & 1) != 0;
            boolean far = w.big != null || w.num > 200;
            if (v.big == null && v.num >= -1 && v.num <= 1) {
                return givesWhole(f, Kit.signOf(w) == 0 || v.num < 0 && !odd ? 1 : v.num);
            }
            Val to = far ? null : kit.power(v, (int) w.num);
            return to == null ? kit.breaks(12, kit.nul) : gives(f, to);
        }

        /** The left one is looked at first; if it is a group it is wrong only when the right one is none. */
        private static int combineSets(Kit kit, Frame f, int op) {
            Val a = kit.vals[0];
            Val b = kit.vals[1];
            if (a == null || a.kind == Val.GROUP && b == null) {
                return kit.breaks(19, kit.nul);
            }
            Val s = kit.set(a, 0);
            Val t = s == null ? null : kit.set(b, 1);
            if (t == null) {
                return BROKE;
            }
            Val to = Kit.emptySet();
            for (int i = 0; i < 4; i++) {
                long x = s.bits[i];
                long y = t.bits[i];
                to.bits[i] = op == UNION ? x | y : op == BOTH ? x & y : x & ~y;
            }
            return gives(f, to);
        }

        private static int combineGroups(Run r, Frame f, int op, Thing a, Thing b) {
            Thing bag = r.kit.bag;
            bag.clear();
            for (int i = 0; i < a.used; i++) {
                Val k = a.keys[i];
                if (k != null && (op == UNION || (b.find(k) >= 0) == (op == BOTH))) {
                    bag.makeRoom();
                    bag.add(k, null);
                }
            }
            for (int i = 0; i < b.used && op == UNION; i++) {
                if (b.keys[i] != null && bag.find(b.keys[i]) < 0) {
                    bag.makeRoom();
                    bag.add(b.keys[i], null);
                }
            }
            return bagged(r, f);
        }

        /** A new group of what is in the bag. */
        private static int bagged(Run r, Frame f) {
            Thing bag = r.kit.bag;
            if (!r.room(1, bag.size)) {
                return BROKE;
            }
            Thing t = Thing.make(Val.GROUP);
            if (bag.size > 0) {
                t.widen(bag.size);
            }
            for (int i = 0; i < bag.used; i++) {
                t.add(bag.keys[i], null);
            }
            r.keep(t, t.size);
            return gives(f, t.self);
        }

        // ---- assigning

        static int assigning(Run r, Frame f) {
            Kit kit = r.kit;
            Val a = kit.args[0];
            Val v = kit.vals[1];
            Val old = kit.vals[0];
            boolean reversible = f.node.op == REVERSIBLE;
            if (!a.isCell()) {
                return kit.breaks(4, kit.nul);
            }
            if (v == null || reversible && old == null) {
                return kit.breaks(19, kit.nul);
            }
            int code = r.assign(a, v);
            if (code == GAVE && reversible) {
                f.a = old.lasting();
                f.state = Frame.MORE;
                f.more = PUT_BACK;
            }
            f.res = a;
            return code;
        }

        static int swap(Run r, Frame f) {
            Kit kit = r.kit;
            Val a = kit.args[0];
            Val b = kit.args[1];
            Val v = kit.vals[0];
            Val w = kit.vals[1];
            if (!a.isCell()) {
                return kit.breaks(4, kit.nul);
            }
            if (!b.isCell()) {
                return kit.breaks(4, kit.nul);
            }
            if (v == null || w == null) {
                return kit.breaks(19, kit.nul);
            }
            int code = r.assign(a, w);
            if (code == GAVE) {
                code = r.assign(b, v);
            }
            if (code == GAVE && f.node.op == SWAPBACK) {
                f.a = v.lasting();
                f.b = w.lasting();
                f.state = Frame.MORE;
                f.more = PUT_BOTH_BACK;
            }
            f.res = a;
            return code;
        }

        // ---- elements, sections, fields

        static int element(Run r, Frame f) {
            Kit kit = r.kit;
            Val x = kit.vals[0];
            if (x == null || kit.argCount < 2) {
                return kit.breaks(19, kit.nul);
            }
            if (x.kind == Val.TABLE) {
                return elementOfTable(r, f, x.thing, kit.vals[1]);
            }
            boolean row = x.kind == Val.LIST || x.kind == Val.RECORD;
            Val t = row ? null : kit.asText(x, 0);
            if (!row && t == null) {
                return kit.breaks(10, x);
            }
            Val w = kit.whole(kit.vals[1], 0);
            if (w == null) {
                return BROKE;
            }
            int n = t == null ? x.thing.size : t.len;
            long k = Kit.near(w);
            k = k < 0 ? n + 1 + k : k;
            if (k < 1 || k > n) {
                return FAILED;
            }
            return t == null ? gives(f, x.thing.cell((int) k)) : bytesOf(r, f, x, t, (int) k, (int) k + 1);
        }

        private static int elementOfTable(Run r, Frame f, Thing t, Val key) {
            if (key == null) {
                return r.kit.breaks(19, r.kit.nul);
            }
            int slot = t.find(key);
            if (slot >= 0) {
                return gives(f, t.items[slot]);
            }
            Val c = new Val(Val.COMING);
            c.thing = t;
            c.in = key.lasting();
            return gives(f, c);
        }

        /** The bytes between two places of x, as a text t: a SECTION of the first operand, or a text. */
        private static int bytesOf(Run r, Frame f, Val x, Val t, int from, int to) {
            Val cell = r.kit.args[0];
            int low = Math.min(from, to);
            int n = Math.abs(to - from);
            boolean section = cell.kind == Val.CELL || cell.kind == Val.COMING || cell.kind == Val.SECTION;
            if (x.kind != Val.TEXT || !section) {
                Val m = x.kind == Val.TEXT ? x : r.madeOf(x, t);
                return m == null ? BROKE : gives(f, Val.text(m.bytes, m.off + low - 1, n));
            }
            Val s = new Val(Val.SECTION);
            s.in = cell.kind == Val.SECTION ? cell.in : cell;
            s.off = (cell.kind == Val.SECTION ? cell.off : 0) + low - 1;
            s.len = n;
            return gives(f, s);
        }

        static int between(Run r, Frame f) {
            Kit kit = r.kit;
            Val x = kit.vals[0];
            if (x == null || kit.argCount < 3) {
                return kit.breaks(19, kit.nul);
            }
            boolean list = x.kind == Val.LIST;
            Val t = list ? null : kit.asText(x, 0);
            if (!list && t == null) {
                return kit.breaks(10, x);
            }
            Val i = kit.whole(kit.vals[1], 0);
            Val j = i == null ? null : kit.whole(kit.vals[2], 1);
            if (j == null) {
                return BROKE;
            }
            int n = t == null ? x.thing.size : t.len;
            int from = Run.placeIn(Kit.near(i), n);
            long to = Kit.near(j);
            if (f.node.op == COLON) {
                to = Run.placeIn(to, n);
            } else {
                to = f.node.op == PLUSCOLON ? from + to : from - to;
            }
            if (from < 1 || to < 1 || to > n + 1) {
                return FAILED;
            }
            return list ? partOfList(r, f, x.thing, from, (int) to) : bytesOf(r, f, x, t, from, (int) to);
        }

        private static int partOfList(Run r, Frame f, Thing t, int from, int to) {
            int low = Math.min(from, to);
            int n = Math.abs(to - from);
            if (!r.room(1, n)) {
                return BROKE;
            }
            Thing l = Thing.row(Val.LIST, n);
            addCells(l, t, low, n);
            return gives(f, r.keep(l, n).self);
        }

        /** New cells with the values of n cells of another one, from place i on. */
        private static void addCells(Thing to, Thing from, int i, int n) {
            for (int k = 0; k < n; k++) {
                Val c = from.cell(i + k);
                if (c != null) {
                    to.fill(Val.cell(c.in));
                }
            }
        }

        private static int field(Run r, Frame f, Val v) {
            if (v == null) {
                return r.kit.breaks(19, r.kit.nul);
            }
            if (v.kind != Val.RECORD || v.thing == null || v.thing.maker == null) {
                return r.kit.breaks(8, v);
            }
            int k = Proc.find(v.thing.maker.names, f.node.name);
            return k < 0 ? r.kit.breaks(8, v) : gives(f, v.thing.cell(k + 1));
        }

        private static int newList(Run r, Frame f) {
            Kit kit = r.kit;
            int n = kit.argCount;
            if (kit.isStale(0, n)) {
                return BROKE;
            }
            if (!r.room(1, n)) {
                return BROKE;
            }
            Thing l = Thing.row(Val.LIST, n);
            for (int i = 0; i < n; i++) {
                l.addRight(Val.cell(kit.vals[i].lasting()));
            }
            return gives(f, r.keep(l, n).self);
        }

        private static int joinLists(Run r, Frame f, Thing a, Val y) {
            Thing b = a == null ? null : r.kit.list(y);
            if (b == null) {
                return BROKE;
            }
            int n = a.size + b.size;
            if (!r.room(1, n)) {
                return BROKE;
            }
            Thing l = Thing.row(Val.LIST, n);
            addCells(l, a, 1, a.size);
            addCells(l, b, 1, b.size);
            return gives(f, r.keep(l, n).self);
        }

        // ---- calls

        /** What calls this comes to, if it can be called; what is called stands in the kit. */
        static int wayToCall(Run r, Val v) {
            Kit kit = r.kit;
            if (v == null) {
                return kit.breaks(19, kit.nul);
            }
            kit.called = v;
            if (v.kind == Val.WHOLE) {
                return Run.CALL_WHOLE;
            }
            Proc p = v.kind == Val.TEXT ? r.program.procOf(v, kit) : v.proc;
            if (p == null) {
                return kit.breaks(6, v);
            }
            kit.called = p.val;
            if (p.kind != Proc.LIBRARY) {
                return p.kind == Proc.SOURCE ? Run.CALL_SOURCE : Run.CALL_MAKER;
            }
            if (p.index <= POS) {
                return Run.CALL_SCAN;
            }
            if (p.index <= STOP) {
                return Run.CALL_WRITE;
            }
            if (p.index <= NUMBER) {
                return Run.CALL_CONVERT;
            }
            if (p.index <= SORT) {
                return p.index == SORT ? Run.CALL_SORT : Run.CALL_THINGS;
            }
            if (p.index == MIN || p.index == MAX) {
                return Run.CALL_EXTREME;
            }
            return p.index <= ORD ? Run.CALL_TEXTS : Run.CALL_NUMBERS;
        }

        static int applied(Run r, Frame f) {
            Kit kit = r.kit;
            int way = wayToCall(r, kit.vals[0]);
            if (way == BROKE) {
                return BROKE;
            }
            Val x = kit.vals[1];
            if (x == null) {
                return kit.breaks(19, kit.nul);
            }
            if (x.kind != Val.LIST && x.kind != Val.RECORD) {
                return kit.breaks(10, x);
            }
            kit.argCount = 1;
            for (int i = 1; i <= x.thing.size; i++) {
                Val e = x.thing.cell(i);
                if (e != null) {
                    kit.arg(e, e.in);
                }
            }
            return way;
        }

        static int chosen(Kit kit, Frame f) {
            long place = Kit.near(kit.called);
            int n = kit.argCount - 1;
            long k = place < 0 ? n + 1 + place : place;
            if (k < 1 || k > n) {
                return FAILED;
            }
            Val v = kit.vals[(int) k];
            return v == null ? kit.breaks(19, kit.nul) : gives(f, v.lasting());
        }

        static int callSource(Run r, Frame f) {
            Kit kit = r.kit;
            Proc p = kit.called.proc;
            int count = kit.argCount - 1;
            int own = p.rest ? p.params - 1 : p.params;
            int more = p.rest ? Math.max(0, count - own) : 0;
            int used = Math.min(own, count);
            int n = p.names.size();
            if (kit.isStale(1, 1 + used + more)) {
                return BROKE;
            }
            if (f.call.depth >= Run.DEEPEST) {
                return kit.breaks(16, kit.nul);
            }
            if (!r.room(p.rest ? 1 : 0, n + more)) {
                return BROKE;
            }
            Val[] cells = new Val[n];
            for (int i = 0; i < n; i++) {
                cells[i] = Val.cell(i < used ? kit.vals[i + 1].lasting() : kit.nul);
            }
            r.take(n);
            if (p.rest && own >= 0 && own < n) {
                Thing l = Thing.row(Val.LIST, more);
                for (int i = 0; i < more; i++) {
                    l.addRight(Val.cell(kit.vals[1 + own + i].lasting()));
                }
                cells[own].in = r.keep(l, more).self;
            }
            Call c = new Call(p, cells, f.call.depth + 1, f);
            r.called(c);
            r.enter(f, c);
            return DONE;
        }

        static int makeRecord(Run r, Frame f) {
            Kit kit = r.kit;
            Proc p = kit.called.proc;
            int n = p.names.size();
            int used = Math.min(n, kit.argCount - 1);
            if (kit.isStale(1, 1 + used)) {
                return BROKE;
            }
            if (!r.room(1, n)) {
                return BROKE;
            }
            Thing t = Thing.row(Val.RECORD, n);
            t.maker = p;
            for (int i = 0; i < n; i++) {
                t.addRight(Val.cell(i < used ? kit.vals[i + 1].lasting() : kit.nul));
            }
            return gives(f, r.keep(t, n).self);
        }

        // ---- parts

        private static int create(Run r, Frame f) {
            Call now = f.call;
            int n = now.cells.length;
            if (!r.room(1, n)) {
                return BROKE;
            }
            Thing t = Thing.row(Val.PART, n);
            for (int i = 0; i < n; i++) {
                t.items[i] = now.cells[i].in;
            }
            Node e = f.node.kid;
            t.goal = e.id < 0 ? r.told[Run.GOAL_NUMBER] : 0;
            return gives(f, newPart(r, t, e, now).self);
        }

        private static int anew(Run r, Frame f, Val v) {
            Thing old = v.thing;
            if (v.kind != Val.PART || old == null) {
                return r.kit.breaks(7, v);
            }
            int n = old.items.length;
            if (!r.room(1, n)) {
                return BROKE;
            }
            Thing t = Thing.make(Val.PART);
            t.items = old.items;
            t.goal = old.goal;
            return gives(f, newPart(r, t, old.frame.inner.node, old.frame.call).self);
        }

        private static Thing newPart(Run r, Thing t, Node e, Call like) {
            int n = t.items.length;
            Val[] cells = new Val[n];
            for (int i = 0; i < n; i++) {
                cells[i] = Val.cell(t.items[i]);
            }
            Frame b = new Frame(null, null);
            b.state = Frame.PART;
            b.call = new Call(like.proc, cells, like.depth, b);
            b.scan = new Scan(r.kit.empty);
            b.inner = new Frame(e, b);
            t.frame = b;
            return r.keep(t, n);
        }

        // ---- more results

        static int more(Run r, Frame f) {
            switch (f.more) {
                case COUNT_UP:
                    Val n = r.kit.add(f.res, f.b, 1);
                    return n == null || beyond(r.kit.compare(n, f.a), f.b) ? FAILED : gives(f, n);
                case EACH:
                    return nextOf(r, f, f.a);
                case POS_BACK:
                    if (f.i <= f.scan.subject.len + 1) {
                        f.scan.pos = (int) f.i;
                    }
                    return FAILED;
                case UP_TO:
                    return givesPlace(f, nextByte(r.kit, f));
                case FIND:
                    return givesPlace(f, nextText(r.kit, f));
                case BALANCED:
                    return givesPlace(f, nextBalanced(r.kit, f));
                case SEQUENCE:
                    Val m = r.kit.add(f.res, f.b, 1);
                    return m == null ? r.kit.breaks(12, r.kit.nul) : gives(f, m);
                case KEYS_OF:
                    int slot = f.a.thing.from((int) f.i);
                    f.i = slot + 1L;
                    return slot < 0 ? FAILED : gives(f, f.a.thing.keys[slot]);
                default:
                    return FAILED;
            }
        }

        /** What can't be put back stays. */
        static int putBack(Run r, Frame f) {
            Val b = f.right();
            Val a = f.left();
            if (a == null || b == null) {
                return FAILED;
            }
            if (f.more == PUT_BOTH_BACK) {
                r.assign(b, f.b);
            }
            r.assign(a, f.a);
            return FAILED;
        }

        /** Gives a place, if there is one; what it was looked for in is kept from now on as the values that were told. */
        private static int givesPlace(Frame f, int p) {
            if (p < 1) {
                return FAILED;
            }
            f.i = p + 1L;
            f.a = f.a.lasting();
            f.b = f.b.lasting();
            f.c = f.c.lasting();
            f.d = f.d.lasting();
            return givesWhole(f, p);
        }

        private static int nextByte(Kit kit, Frame f) {
            Val s = kit.text(f.a, 0);
            Val c = kit.set(f.b, 0);
            for (int p = (int) f.i; p < f.j && s != null && c != null; p++) {
                if (c.has(s.at(p - 1))) {
                    return p;
                }
            }
            return 0;
        }

        private static int nextText(Kit kit, Frame f) {
            Val s = kit.text(f.a, 0);
            Val t = kit.text(f.b, 1);
            for (int p = (int) f.i; s != null && t != null && p + t.len <= f.j; p++) {
                if (standsAt(s, p - 1, t, (int) f.j - 1)) {
                    return p;
                }
            }
            return 0;
        }

        private static int nextBalanced(Kit kit, Frame f) {
            Val s = kit.text(f.a, 0);
            Val c = kit.set(f.b, 0);
            Val o = kit.set(f.c, 1);
            Val q = kit.set(f.d, 2);
            for (int p = (int) f.i; p < f.j && f.n >= 0 && s != null && c != null && o != null && q != null; p++) {
                int b = s.at(p - 1);
                boolean here = f.n == 0 && c.has(b);
                f.n += (o.has(b) ? 1 : 0) - (q.has(b) ? 1 : 0);
                if (here) {
                    return p;
                }
            }
            return 0;
        }

        // ---- texts that are scanned

        static int scan(Run r, Frame f) {
            Kit kit = r.kit;
            int id = kit.called.proc.index;
            Val first = kit.given(0, id == BAL ? kit.fixed[Kit.ALL] : kit.nul);
            if (id > BAL) {
                return scanTo(f, id, kit.whole(first, 0));
            }
            boolean text = id == MATCH || id == FIND_TEXT;
            if (text ? kit.text(first, 1) == null : kit.set(first, 0) == null) {
                return BROKE;
            }
            f.b = first;
            f.c = id == BAL ? kit.given(1, kit.fixed[Kit.OPENING]) : kit.nul;
            f.d = id == BAL ? kit.given(2, kit.fixed[Kit.CLOSING]) : kit.nul;
            if (id == BAL && (kit.set(f.c, 1) == null || kit.set(f.d, 2) == null)) {
                return BROKE;
            }
            int code = range(kit, f, id == BAL ? 3 : 1);
            return code == GAVE ? scanFor(kit, f, id) : code;
        }

        /** Puts s, i and j, which begin at argument k, into f: GAVE, FAILED or BROKE. */
        private static int range(Kit kit, Frame f, int k) {
            f.a = kit.given(k, f.scan.subject);
            Val s = kit.text(f.a, 0);
            Val i = s == null ? null : kit.whole(kit.given(k + 1, kit.fixed[Kit.ONE]), 0);
            Val j = i == null ? null : kit.whole(kit.given(k + 2, kit.fixed[Kit.ZERO]), 1);
            if (j == null) {
                return BROKE;
            }
            boolean atPos = kit.lacks(k) && kit.lacks(k + 1);
            int from = atPos ? f.scan.pos : Run.placeIn(Kit.near(i), s.len);
            int to = Run.placeIn(Kit.near(j), s.len);
            f.i = Math.min(from, to);
            f.j = Math.max(from, to);
            return f.i < 1 ? FAILED : GAVE;
        }

        private static int scanFor(Kit kit, Frame f, int id) {
            f.n = 0;
            if (id == UPTO || id == FIND_TEXT) {
                return starts(f, id == UPTO ? UP_TO : FIND);
            }
            if (id == BAL) {
                return starts(f, BALANCED);
            }
            Val s = kit.text(f.a, 0);
            if (id == MATCH) {
                Val t = kit.text(f.b, 1);
                boolean there = s != null && t != null && standsAt(s, (int) f.i - 1, t, (int) f.j - 1);
                return there ? givesWhole(f, f.i + t.len) : FAILED;
            }
            Val c = kit.set(f.b, 0);
            int p = (int) f.i;
            for (int g = 0; g < LOOPS && s != null && c != null && p < f.j && c.has(s.at(p - 1)) && (g == 0 || id == MANY); g++) {
                p++;
            }
            return p > f.i ? givesWhole(f, p) : FAILED;
        }

        private static int scanTo(Frame f, int id, Val w) {
            if (w == null) {
                return BROKE;
            }
            Scan s = f.scan;
            int n = s.subject.len;
            long to = id == MOVE ? s.pos + Kit.near(w) : Run.placeIn(Kit.near(w), n);
            if (to < 1 || to > n + 1) {
                return FAILED;
            }
            if (id == POS) {
                return to == s.pos ? givesWhole(f, to) : FAILED;
            }
            return tabTo(f, s, (int) to);
        }

        // ---- OUT and INPUT

        static int write(Run r, Frame f) {
            Kit kit = r.kit;
            int id = kit.called.proc.index;
            int n = kit.argCount;
            long bytes = id == WRITES ? 0 : 1;
            for (int i = 1; i < n; i++) {
                Val v = kit.vals[i];
                Val t = v != null && v.kind == Val.NULL ? kit.empty : kit.text(v, 0);
                if (t == null) {
                    return BROKE;
                }
                bytes += t.len;
            }
            if (r.told[Run.OUT] + bytes > r.out.length) {
                return kit.breaks(17, kit.nul);
            }
            for (int i = 1; i < n; i++) {
                Val t = kit.asText(kit.vals[i], 0);
                for (int k = 0; t != null && k < t.len; k++) {
                    putOut(r, t.at(k));
                }
            }
            if (id != WRITES) {
                putOut(r, 10);
            }
            f.res = n < 2 ? kit.nul : kit.vals[n - 1].lasting();
            if (id != STOP) {
                return GAVE;
            }
            if (r.inGoal()) {
                return FAILED;
            }
            r.stop();
            return DONE;
        }

        private static void putOut(Run r, int c) {
            int k = r.told[Run.OUT];
            if (k < r.out.length) {
                r.out[k] = (byte) c;
                r.told[Run.OUT] = k + 1;
            }
        }

        private static int read(Run r, Frame f) {
            int from = r.told[Run.READ];
            if (from >= r.input.length) {
                return FAILED;
            }
            int to = from;
            for (int g = 0; g < TAPE && to < r.input.length && r.input[to] != 10; g++) {
                to++;
            }
            Val t = r.make(to - from);
            if (t == null) {
                return BROKE;
            }
            System.arraycopy(r.input, from, t.bytes, t.off, to - from);
            r.told[Run.READ] = to + 1;
            return gives(f, t);
        }

        // ---- kinds

        static int convert(Run r, Frame f) {
            Kit kit = r.kit;
            int id = kit.called.proc.index;
            if (id == READ) {
                return read(r, f);
            }
            if (id == PROC) {
                Val name = kit.text(kit.given(0, kit.nul), 0);
                Proc p = name == null ? null : r.program.procOf(name, kit);
                return name == null ? BROKE : p == null ? FAILED : gives(f, p.val);
            }
            Val v = kit.given(0, kit.nul);
            if (v == null) {
                return kit.breaks(19, kit.nul);
            }
            switch (id) {
                case IMAGE:
                    if (v.isLiteral()) {
                        kit.literal(v);
                    } else {
                        kit.image(v);
                    }
                    return gives(f, madeOfBytes(r, kit.image, kit.imageSize));
                case TYPE:
                    return gives(f, typeOf(kit, v));
                case COPY:
                    return copy(r, f, v);
                case WHOLE:
                    Val w = kit.whole(v, 0);
                    return w == null ? FAILED : gives(f, w.lasting());
                case TEXT:
                    Val t = kit.asText(v, 0);
                    return t == null ? FAILED : gives(f, r.madeOf(v, t));
                case SET:
                    Val s = kit.set(v, 0);
                    return s == null ? FAILED : gives(f, s.lasting());
                default:
                    return v.thing == null ? FAILED : givesWhole(f, v.thing.number);
            }
        }

        private static Val madeOfBytes(Run r, byte[] b, int n) {
            Val t = r.make(n);
            if (t != null && n <= b.length) {
                System.arraycopy(b, 0, t.bytes, t.off, n);
            }
            return t;
        }

        private static Val typeOf(Kit kit, Val v) {
            Proc maker = v.thing == null ? null : v.thing.maker;
            if (maker == null) {
                return kit.fixed[Kit.KINDS + v.kind];
            }
            if (maker.word == null) {
                maker.word = Val.word(maker.name);
            }
            return maker.word;
        }

        private static int copy(Run r, Frame f, Val v) {
            Thing from = v.thing;
            if (from == null || v.kind == Val.PART) {
                return gives(f, v.lasting());
            }
            int n = from.size;
            if (!r.room(1, n)) {
                return BROKE;
            }
            boolean row = v.kind == Val.LIST || v.kind == Val.RECORD;
            Thing t = row ? Thing.row(v.kind, n) : Thing.make(v.kind);
            t.other = from.other;
            t.maker = from.maker;
            if (row) {
                addCells(t, from, 1, n);
            } else if (n > 0) {
                t.widen(n);
                for (int i = 0; i < from.used; i++) {
                    if (from.keys[i] != null) {
                        t.add(from.keys[i], v.kind == Val.TABLE ? Val.cell(from.items[i].in) : null);
                    }
                }
            }
            return gives(f, r.keep(t, n).self);
        }

        // ---- lists, groups, tables

        static int things(Run r, Frame f) {
            Kit kit = r.kit;
            int id = kit.called.proc.index;
            switch (id) {
                case LIST:
                    return listOf(r, f, kit.whole(kit.given(0, kit.fixed[Kit.ZERO]), 0));
                case GROUP:
                    return groupOf(r, f);
                case TABLE:
                    return tableOf(r, f, kit.look(0));
                case PUT:
                case PUSH:
                    return put(r, f, id, kit.list(kit.given(0, kit.nul)));
                case GET:
                case PULL:
                    return take(f, id, kit.list(kit.given(0, kit.nul)));
                case INSERT:
                case DELETE:
                case MEMBER:
                    return keyed(r, f, id, kit.given(0, kit.nul));
                default:
                    return keys(r, f, kit.given(0, kit.nul));
            }
        }

        private static int listOf(Run r, Frame f, Val w) {
            Val x = w == null ? null : r.kit.look(1);
            if (x == null) {
                return BROKE;
            }
            if (w.big != null || w.num < 0 || w.num > 500) {
                return r.kit.breaks(20, r.kit.nul);
            }
            int n = (int) w.num;
            if (!r.room(1, n)) {
                return BROKE;
            }
            Thing t = Thing.row(Val.LIST, n);
            Val each = x.lasting();
            for (int i = 0; i < n; i++) {
                t.addRight(Val.cell(each));
            }
            return gives(f, r.keep(t, n).self);
        }

        private static int groupOf(Run r, Frame f) {
            Kit kit = r.kit;
            kit.bag.clear();
            if (!kit.lacks(0)) {
                Thing l = kit.list(kit.given(0, kit.nul));
                if (l == null) {
                    return BROKE;
                }
                for (int i = 1; i <= l.size; i++) {
                    Val c = l.cell(i);
                    if (c != null && kit.bag.find(c.in) < 0) {
                        kit.bag.makeRoom();
                        kit.bag.add(c.in, null);
                    }
                }
            }
            return bagged(r, f);
        }

        private static int tableOf(Run r, Frame f, Val other) {
            if (other == null || !r.roomForThing()) {
                return BROKE;
            }
            Thing t = Thing.make(Val.TABLE);
            t.other = other.lasting();
            return gives(f, r.keep(t, 0).self);
        }

        private static int put(Run r, Frame f, int id, Thing l) {
            Kit kit = r.kit;
            if (l == null || kit.isStale(2, kit.argCount)) {
                return BROKE;
            }
            int n = Math.max(1, kit.argCount - 2);
            if (!r.room(0, n)) {
                return BROKE;
            }
            r.take(n);
            for (int i = 1; i <= n; i++) {
                Val c = Val.cell(kit.given(i, kit.nul).lasting());
                if (id == PUT) {
                    l.addRight(c);
                } else {
                    l.addLeft(c);
                }
            }
            return gives(f, l.self);
        }

        private static int take(Frame f, int id, Thing l) {
            if (l == null) {
                return BROKE;
            }
            Val c = id == GET ? l.takeLeft() : l.takeRight();
            return c == null ? FAILED : gives(f, c.in);
        }

        private static int keyed(Run r, Frame f, int id, Val x) {
            Kit kit = r.kit;
            if (x == null) {
                return kit.breaks(19, kit.nul);
            }
            if (x.kind != Val.TABLE && x.kind != Val.GROUP) {
                return kit.breaks(9, x);
            }
            Val k = kit.look(1);
            Val v = k == null || id != INSERT ? k : kit.look(2);
            if (v == null) {
                return BROKE;
            }
            Thing t = x.thing;
            int slot = t.find(k);
            if (id == MEMBER) {
                return slot < 0 ? FAILED : gives(f, k.lasting());
            }
            f.res = x;
            if (id == DELETE) {
                t.remove(slot);
                return GAVE;
            }
            if (slot >= 0) {
                if (x.kind == Val.TABLE) {
                    t.items[slot].in = v.lasting();
                }
                return GAVE;
            }
            if (!r.room(0, 1)) {
                return BROKE;
            }
            r.take(1);
            t.makeRoom();
            t.add(k.lasting(), x.kind == Val.TABLE ? Val.cell(v.lasting()) : null);
            return GAVE;
        }

        private static int keys(Run r, Frame f, Val x) {
            if (x == null) {
                return r.kit.breaks(19, r.kit.nul);
            }
            if (x.kind != Val.TABLE) {
                return r.kit.breaks(9, x);
            }
            f.a = x;
            f.i = 0;
            return starts(f, KEYS_OF);
        }

        static int sort(Run r, Frame f) {
            Kit kit = r.kit;
            Val x = kit.given(0, kit.nul);
            if (x == null) {
                return kit.breaks(19, kit.nul);
            }
            if (x.kind != Val.LIST && x.kind != Val.GROUP && x.kind != Val.TABLE) {
                return kit.breaks(10, x);
            }
            Thing from = x.thing;
            boolean pairs = x.kind == Val.TABLE;
            int n = from.size;
            if (!r.room(pairs ? n + 1 : 1, pairs ? 3 * n : n)) {
                return BROKE;
            }
            Val[] values = new Val[n];
            int[] at = new int[n];
            int slot = -1;
            for (int i = 0; i < n; i++) {
                slot = from.from(slot + 1);
                at[i] = slot;
                Val c = x.kind == Val.LIST ? from.cell(i + 1) : from.keys[slot];
                values[i] = x.kind == Val.LIST && c != null ? c.in : c;
            }
            int[] order = sorted(kit, values, n);
            Thing to = r.keep(Thing.row(Val.LIST, n), n);
            for (int i = 0; i < n; i++) {
                Val v = values[order[i]];
                to.addRight(Val.cell(pairs ? pair(r, v, from.items[at[order[i]]].in) : v));
            }
            return gives(f, to.self);
        }

        private static Val pair(Run r, Val k, Val v) {
            Thing t = Thing.row(Val.LIST, 2);
            t.addRight(Val.cell(k));
            t.addRight(Val.cell(v));
            return r.keep(t, 2).self;
        }

        /** Where the values stand, in THE ORDER; those that are the same stay as they stand. */
        private static int[] sorted(Kit kit, Val[] v, int n) {
            int[] a = new int[n];
            int[] b = new int[n];
            for (int i = 0; i < n; i++) {
                a[i] = i;
            }
            for (int width = 1; width < n; width *= 2) {
                for (int low = 0; low < n; low += 2 * width) {
                    int mid = Math.min(low + width, n);
                    int high = Math.min(low + 2 * width, n);
                    int i = low;
                    int j = mid;
                    for (int k = low; k < high; k++) {
                        boolean left = i < mid && (j >= high || kit.order(v[a[i]], v[a[j]]) <= 0);
                        b[k] = left ? a[i] : a[j];
                        i += left ? 1 : 0;
                        j += left ? 0 : 1;
                    }
                }
                int[] t = a;
                a = b;
                b = t;
            }
            return a;
        }

        // ---- texts

        static int texts(Run r, Frame f) {
            Kit kit = r.kit;
            int id = kit.called.proc.index;
            switch (id) {
                case LEFT:
                case RIGHT:
                case CENTER:
                    return fit(r, f, id, kit.text(kit.given(0, kit.nul), 0));
                case TRIM:
                    return trim(r, f, kit.text(kit.given(0, kit.nul), 0));
                case REPL:
                    return repeat(r, f, kit.text(kit.given(0, kit.nul), 0));
                case REVERSE:
                    Val x = kit.given(0, kit.nul);
                    return x != null && x.kind == Val.LIST ? reverseList(r, f, x.thing) : reverse(r, f, x);
                case MAP:
                    return map(r, f, kit.text(kit.given(0, kit.nul), 0));
                case CHAR:
                    return character(r, f, kit.whole(kit.given(0, kit.nul), 0));
                default:
                    Val s = kit.text(kit.given(0, kit.nul), 0);
                    if (s == null) {
                        return BROKE;
                    }
                    return s.len == 1 ? givesWhole(f, s.at(0)) : kit.breaks(20, kit.nul);
            }
        }

        private static int fit(Run r, Frame f, int id, Val s) {
            Kit kit = r.kit;
            Val w = s == null ? null : kit.whole(kit.given(1, kit.fixed[Kit.ONE]), 0);
            Val p = w == null ? null : kit.text(kit.given(2, kit.singles[32]), 1);
            if (p == null) {
                return BROKE;
            }
            if (w.big != null || w.num < 0 || w.num > Run.LONGEST) {
                return kit.breaks(20, kit.nul);
            }
            int n = (int) w.num;
            Val t = r.make(n);
            if (t == null) {
                return BROKE;
            }
            Val pad = p.len == 0 ? kit.singles[32] : p;
            // Where the first byte of s would stand in the new text.
            int start = id == LEFT ? 0 : id == RIGHT ? n - s.len : s.len > n ? -((s.len - n) / 2) : (n - s.len) / 2;
            for (int i = 0; i < n; i++) {
                int c;
                if (i < start) {
                    c = pad.at(i % pad.len);
                } else if (i - start < s.len) {
                    c = s.at(i - start);
                } else {
                    c = pad.at(pad.len - 1 - (n - 1 - i) % pad.len);
                }
                t.bytes[t.off + i] = (byte) c;
            }
            return gives(f, t);
        }

        private static int trim(Run r, Frame f, Val s) {
            Kit kit = r.kit;
            Val c = s == null ? null : kit.set(kit.given(1, kit.fixed[Kit.BLANK]), 0);
            Val told = kit.given(0, kit.nul);
            Val m = c == null || told.kind == Val.TEXT ? s : r.madeOf(told, s);
            if (c == null || m == null) {
                return BROKE;
            }
            int n = m.len;
            for (int g = 0; g < Run.LONGEST && n > 0 && c.has(m.at(n - 1)); g++) {
                n--;
            }
            return gives(f, Val.text(m.bytes, m.off, n));
        }

        private static int repeat(Run r, Frame f, Val s) {
            Kit kit = r.kit;
            Val w = s == null ? null : kit.whole(kit.given(1, kit.nul), 0);
            if (w == null) {
                return BROKE;
            }
            if (Kit.signOf(w) < 0) {
                return kit.breaks(20, kit.nul);
            }
            long n = Kit.near(w) * s.len;
            Val t = r.make((int) Math.min(n, Run.LONGEST + 1));
            if (t == null) {
                return BROKE;
            }
            for (int i = 0; i < t.len && s.len > 0; i++) {
                t.bytes[t.off + i] = (byte) s.at(i % s.len);
            }
            return gives(f, t);
        }

        private static int reverse(Run r, Frame f, Val x) {
            Kit kit = r.kit;
            Val s = kit.text(x, 0);
            if (s == null) {
                return BROKE;
            }
            Val t = r.make(s.len);
            for (int i = 0; t != null && i < s.len; i++) {
                t.bytes[t.off + i] = (byte) s.at(s.len - 1 - i);
            }
            return gives(f, t);
        }

        private static int reverseList(Run r, Frame f, Thing l) {
            int n = l.size;
            if (!r.room(1, n)) {
                return BROKE;
            }
            Thing to = Thing.row(Val.LIST, n);
            for (int i = n; i >= 1; i--) {
                addCells(to, l, i, 1);
            }
            return gives(f, r.keep(to, n).self);
        }

        private static int map(Run r, Frame f, Val s) {
            Kit kit = r.kit;
            Val from = s == null ? null : kit.text(kit.given(1, kit.asText(kit.fixed[Kit.UPPER], 1)), 1);
            Val to = from == null ? null : kit.text(kit.given(2, kit.asText(kit.fixed[Kit.LOWER], 2)), 2);
            if (to == null) {
                return BROKE;
            }
            if (from.len != to.len) {
                return kit.breaks(20, kit.nul);
            }
            Val t = r.make(s.len);
            for (int i = 0; t != null && i < s.len; i++) {
                int c = s.at(i);
                for (int k = from.len - 1; k >= 0; k--) {
                    if (from.at(k) == s.at(i)) {
                        c = to.at(k);
                        break;
                    }
                }
                t.bytes[t.off + i] = (byte) c;
            }
            return gives(f, t);
        }

        private static int character(Run r, Frame f, Val w) {
            if (w == null) {
                return BROKE;
            }
            if (w.big != null || w.num < 0 || w.num > 255) {
                return r.kit.breaks(20, r.kit.nul);
            }
            Val t = r.make(1);
            if (t != null) {
                t.bytes[t.off] = (byte) w.num;
            }
            return gives(f, t);
        }

        // ---- wholes

        static int numbers(Run r, Frame f) {
            Kit kit = r.kit;
            int id = kit.called.proc.index;
            Val a = kit.whole(kit.given(0, id == SEQ ? kit.fixed[Kit.ONE] : kit.nul), 0);
            if (a == null) {
                return BROKE;
            }
            switch (id) {
                case SEQ:
                    Val k = kit.whole(kit.given(1, kit.fixed[Kit.ONE]), 1);
                    if (k == null) {
                        return BROKE;
                    }
                    f.b = k.lasting();
                    f.state = Frame.MORE;
                    f.more = SEQUENCE;
                    return gives(f, a.lasting());
                case ABS:
                    return gives(f, Kit.signOf(a) < 0 ? kit.add(kit.fixed[Kit.ZERO], a, -1) : a.lasting());
                case GCD:
                    Val b = kit.whole(kit.given(1, kit.nul), 1);
                    return b == null ? BROKE : gives(f, kit.gcd(a, b));
                default:
                    return givesWhole(f, kit.digitSum(a));
            }
        }

        static int extreme(Kit kit, Frame f) {
            int way = kit.called.proc.index == MIN ? -1 : 1;
            Val best = null;
            int place = 0;
            for (int i = 0; i < Math.max(1, kit.argCount - 1); i++) {
                Val w = kit.whole(kit.given(i, kit.nul), place);
                if (w == null) {
                    return BROKE;
                }
                if (best == null || kit.compare(w, best) * way > 0) {
                    best = w;
                    place = 1 - place;
                }
            }
            return best == null ? FAILED : gives(f, best.lasting());
        }
    }
}
