/**
 * A reducer of functions on types: told constructors, families and equations, it reduces a term
 * step by step and solves wanted equalities. The document's words in capitals are used here as the
 * document uses them.
 */
public final class FamilyReducer {
    public static final int NONE = -1;

    private static final int TAPE_ROOM = 900;
    private static final int CON_ROOM = 8;
    private static final int FAM_ROOM = 5;
    private static final int EQ_ROOM = 16;
    private static final int EQ_VARS = 6;
    private static final int EQ_NODES = 16;
    private static final int TERM_VARS = 12;
    private static final int TERM_NODES = 60;
    private static final int MOST_STEPS = 60;
    private static final int GIVEN_ROOM = 6;
    private static final int WANT_ROOM = 8;
    private static final int WANT_NODES = 30;
    private static final int UNKNOWN_ROOM = 6;
    private static final int LIST_ROOM = 100;
    private static final int MOST_ROUNDS = 20;
    private static final int MOST_ARGUMENTS = 3;

    // Far above what any run can need: the bound of loops that the document does not bound.
    private static final int MILLION = 1000000;

    private static final int VARIABLE = 0;
    private static final int CON = 1;
    private static final int FAM = 2;
    private static final int UNKNOWN = 3;

    private static final int APART = 0;
    private static final int MEET = 1;
    private static final int CIRCLE = 2;

    private final int[] tape = new int[TAPE_ROOM];
    private int tapeSize = 0;
    private int latest = 0;
    private int faultKind = NONE;
    private int faultPlace = NONE;
    private Told told = new Told();
    private Told spareTold = new Told();
    private final Request request = new Request();
    private final Reader reader = new Reader(told, request);
    private final Joiner joiner = new Joiner();
    private final Judge judge = new Judge(joiner);
    private final Reducer reducer = new Reducer(joiner, told, request);
    private final Row theTerm = new Row(TERM_NODES);
    private final Row spareTerm = new Row(TERM_NODES);
    private final int[] termWords = new int[TERM_VARS];
    private int latestPeriod = NONE;
    private final Solver solver = new Solver();
    private final Printer printer = new Printer();

    public FamilyReducer() {
    }

    public int status() {
        return latest;
    }

    public int feed(int a, int b, int c, int d, int e) {
        if (tapeSize + 20 > TAPE_ROOM) {
            return NONE;
        }
        putInt(a);
        putInt(b);
        putInt(c);
        putInt(d);
        putInt(e);
        return tapeSize;
    }

    public int load(int n) {
        if (n < 0 || n > tapeSize) {
            return refuse(1);
        }
        boolean good = reader.readTold(tape, n, spareTold);
        if (!takeTape(good)) {
            return refuse(9);
        }
        Told old = told;
        told = spareTold;
        spareTold = old;
        judge.judgeAll(told);
        reducer.told = told;
        theTerm.size = 0;
        latestPeriod = NONE;
        solver.forget();
        return give(told.eqs);
    }

    public int fault(int what) {
        return what == 0 ? faultKind : what == 1 ? faultPlace : NONE;
    }

    public int many(int what) {
        switch (what) {
            case 0: return give(told.cons);
            case 1: return give(told.fams);
            case 2: return give(told.eqs);
            default: return refuse(1);
        }
    }

    public int family(int f, int what) {
        if (what < 0 || what > 7) {
            return refuse(1);
        }
        if (f < 0 || f >= told.fams) {
            return refuse(2);
        }
        switch (what) {
            case 0: return give(Row.arity(told.famCode[f]));
            case 1: return give(told.closed[f] ? 1 : 0);
            case 2: return give(told.back[f] ? 1 : 0);
            case 3: return give(told.equationsOf(f));
            case 4: return give(told.called(f));
            case 5: return give(told.calledAtLast(f));
            case 6: return give(told.firstParting(f) == NONE ? 1 : 0);
            default: return give(told.goesBackwards(f) ? 1 : 0);
        }
    }

    public int equation(int e, int what) {
        if (what < 0 || what > 5) {
            return refuse(1);
        }
        if (!isEquation(e)) {
            return refuse(2);
        }
        switch (what) {
            case 0: return give(told.owner[e]);
            case 1: return give(told.rank(e));
            case 2: return give(told.vars[e]);
            case 3: return give(told.left[e].size);
            case 4: return give(told.right[e].size);
            default: return give(told.unbounded(e));
        }
    }

    public int meets(int e, int other) {
        if (!isEquation(e) || !isEquation(other)) {
            return refuse(2);
        }
        return give(judge.meetLefts(told, e, other));
    }

    public int compatible(int e, int other) {
        if (!isEquation(e) || !isEquation(other)) {
            return refuse(2);
        }
        if (told.owner[e] != told.owner[other]) {
            return refuse(5);
        }
        return give(told.agree(e, other) ? 1 : 0);
    }

    public int ends(int e, int other, int what) {
        if (what != 0 && what != 1) {
            return refuse(1);
        }
        if (!isEquation(e) || !isEquation(other)) {
            return refuse(2);
        }
        if (judge.meetLefts(told, e, other) != MEET) {
            return refuse(5);
        }
        joiner.nameVariables(judge.leftRoot);
        int end = joiner.lay(told.right[what == 0 ? e : other], 0, what, false);
        printer.size = 0;
        printer.putJoined(joiner, end, told);
        return give(printer.size);
    }

    public int parts(int f, int what) {
        if (what != 0 && what != 1) {
            return refuse(1);
        }
        if (f < 0 || f >= told.fams) {
            return refuse(2);
        }
        int both = told.firstParting(f);
        if (both == NONE) {
            return refuse(5);
        }
        return give(what == 0 ? both / EQ_ROOM : both % EQ_ROOM);
    }

    public int bad(int f, int what) {
        if (what < 0 || what > 2) {
            return refuse(1);
        }
        if (f < 0 || f >= told.fams) {
            return refuse(2);
        }
        if (told.badKind[f] == 0) {
            return refuse(5);
        }
        return give(what == 0 ? told.badKind[f] : what == 1 ? told.badFirst[f] : told.badOther[f]);
    }

    public int term(int n) {
        if (n < 0 || n > tapeSize) {
            return refuse(1);
        }
        boolean good = reader.readWhole(tape, n, told, spareTerm);
        if (!takeTape(good)) {
            return refuse(9);
        }
        theTerm.take(spareTerm);
        System.arraycopy(reader.words, 0, termWords, 0, TERM_VARS);
        return give(theTerm.size);
    }

    public int now(int what) {
        if (what < 0 || what > 3) {
            return refuse(1);
        }
        if (theTerm.size == 0) {
            return refuse(3);
        }
        switch (what) {
            case 0: return give(theTerm.size);
            case 1: return give(deepest() + 1);
            case 2: return give(theTerm.families());
            default: return give(reducer.firingPlaces(theTerm));
        }
    }

    public int node(int k, int what) {
        if (what < 0 || what > 4) {
            return refuse(1);
        }
        if (theTerm.size == 0) {
            return refuse(3);
        }
        if (k < 0 || k >= theTerm.size) {
            return refuse(2);
        }
        int code = theTerm.code[k];
        switch (what) {
            case 0: return give(Row.kind(code));
            case 1: return give(code < 0 ? termVariable(~code) : Row.number(code));
            case 2: return give(theTerm.end(k) - k);
            case 3: return give(reducer.firingAt(theTerm, k));
            default: return give(theTerm.depth(k));
        }
    }

    public int why(int k, int e) {
        if (theTerm.size == 0) {
            return refuse(3);
        }
        if (k < 0 || k >= theTerm.size || !isEquation(e)) {
            return refuse(2);
        }
        return give(reducer.reason(e, theTerm, k));
    }

    public int still(int k, int e) {
        if (theTerm.size == 0) {
            return refuse(3);
        }
        if (k < 0 || k >= theTerm.size || !isEquation(e)) {
            return refuse(2);
        }
        if (reducer.reason(e, theTerm, k) != 3) {
            return refuse(5);
        }
        return give(reducer.firstStill(e, theTerm, k));
    }

    public int step(int way) {
        if (way != 0 && way != 1) {
            return refuse(1);
        }
        if (theTerm.size == 0) {
            return refuse(3);
        }
        reducer.work.take(theTerm);
        if (!reducer.findPlace(way)) {
            return refuse(5);
        }
        if (!reducer.rewrite()) {
            return refuse(6);
        }
        theTerm.take(reducer.work);
        return give(reducer.foundEquation);
    }

    public int reduce(int way) {
        if (way != 0 && way != 1) {
            return refuse(1);
        }
        if (theTerm.size == 0) {
            return refuse(3);
        }
        reducer.work.take(theTerm);
        int how = reducer.reduceAll(way);
        theTerm.take(reducer.work);
        if (how == 7) {
            latestPeriod = reducer.circle;
        }
        return how == 0 ? give(reducer.steps) : refuse(how);
    }

    public int would(int way, int what) {
        if (way != 0 && way != 1 || what != 0 && what != 1) {
            return refuse(1);
        }
        if (theTerm.size == 0) {
            return refuse(3);
        }
        reducer.work.take(theTerm);
        if (what == 0) {
            int how = reducer.reduceAll(way);
            return how == 0 ? give(reducer.steps) : refuse(how);
        }
        boolean within = reducer.reduceAll(0) == 0;
        spareTerm.take(reducer.work);
        reducer.work.take(theTerm);
        boolean without = reducer.reduceAll(1) == 0;
        return give(!within || !without ? 0 : spareTerm.same(reducer.work) ? 1 : 2);
    }

    public int period() {
        return latestPeriod == NONE ? refuse(5) : give(latestPeriod);
    }

    public int print() {
        if (theTerm.size == 0) {
            return refuse(3);
        }
        printer.size = 0;
        printer.putRow(theTerm, told, solver.words);
        return give(printer.size);
    }

    public int out(int i) {
        if (i < 0) {
            return refuse(1);
        }
        if (i >= printer.size) {
            return refuse(5);
        }
        return give(printer.bytes[i]);
    }

    public int want(int n) {
        if (n < 0 || n > tapeSize) {
            return refuse(1);
        }
        boolean good = reader.readRequest(tape, n, told);
        if (!takeTape(good)) {
            return refuse(9);
        }
        solver.begin(request);
        reducer.byGivens = true;
        for (int i = 0; i < MOST_ROUNDS && solver.goesOn(); i++) {
            solver.oneRound(told, reducer);
        }
        reducer.byGivens = false;
        return give(solver.size);
    }

    public int wanted(int what) {
        if (what < 0 || what > 5) {
            return refuse(1);
        }
        if (!solver.asked) {
            return refuse(5);
        }
        switch (what) {
            case 0: return give(solver.size);
            case 1: return give(solver.wrong);
            case 2: return give(solver.wrongOrigin);
            case 3: return give(solver.rounds);
            case 4: return give(solver.unknowns);
            default: return give(solver.bound);
        }
    }

    public int unknown(int k) {
        if (k < 0 || k >= solver.unknowns) {
            return refuse(2);
        }
        if (!solver.isBound(k)) {
            return refuse(5);
        }
        if (!solver.expand(solver.values[k], spareTerm)) {
            return refuse(6);
        }
        printer.size = 0;
        printer.putRow(spareTerm, told, solver.words);
        return give(printer.size);
    }

    private int give(int answer) {
        latest = 0;
        return answer;
    }

    private int refuse(int reason) {
        latest = reason;
        return NONE;
    }

    private void putInt(int four) {
        for (int shift = 24; shift >= 0 && tapeSize < TAPE_ROOM; shift -= 8) {
            tape[tapeSize] = four >>> shift & 255;
            tapeSize++;
        }
    }

    /** The tape is used up by every text that was read, a good one or not. */
    private boolean takeTape(boolean good) {
        tapeSize = 0;
        faultKind = good ? 0 : reader.faultKind;
        faultPlace = good ? NONE : reader.faultPlace;
        return good;
    }

    private boolean isEquation(int e) {
        return e >= 0 && e < told.eqs;
    }

    private int deepest() {
        int most = 0;
        for (int i = 0; i < theTerm.size; i++) {
            most = Math.max(most, theTerm.depth(i));
        }
        return most;
    }

    private int termVariable(int word) {
        for (int i = 0; i < TERM_VARS; i++) {
            if (termWords[i] == word) {
                return i;
            }
        }
        return NONE;
    }

    /**
     * A TERM as the codes of its NODES, each ahead of those in it. A code below 0 is a VARIABLE
     * (its complement is the VARIABLE's number or its WORD), any other one has the kind in two
     * bits, the number of ARGUMENTS in two more, and the number above these.
     */
    private static final class Row {
        final int[] code;
        int size = 0;

        Row(int room) {
            code = new int[Math.max(room, 0)];
        }

        static int make(int kind, int arity, int number) {
            return number << 4 | arity << 2 | kind;
        }

        static int kind(int code) {
            return code < 0 ? VARIABLE : code & 3;
        }

        static int arity(int code) {
            return code < 0 ? 0 : code >> 2 & 3;
        }

        static int number(int code) {
            return code < 0 ? ~code : code >> 4;
        }

        boolean add(int c) {
            if (size >= code.length) {
                return false;
            }
            code[size] = c;
            size++;
            return true;
        }

        boolean addPart(Row from, int at, int end) {
            int n = end - at;
            if (at < 0 || n < 0 || end > from.size || size + n > code.length) {
                return false;
            }
            System.arraycopy(from.code, at, code, size, n);
            size += n;
            return true;
        }

        void take(Row from) {
            size = 0;
            addPart(from, 0, from.size);
        }

        void takePart(Row from, int at) {
            size = 0;
            addPart(from, at, from.end(at));
        }

        /** Where the NODE at a place and all in it end. */
        int end(int at) {
            int missing = 1;
            int i = at < 0 ? 0 : at;
            for (; i < size && missing > 0; i++) {
                missing += code[i] < 0 ? -1 : (code[i] >> 2 & 3) - 1;
            }
            return i;
        }

        boolean same(Row other) {
            return size == other.size && samePart(0, other, 0);
        }

        /** No end of the other part is needed: where all codes are the same, it ends there, too. */
        boolean samePart(int at, Row other, int from) {
            if (at < 0 || from < 0) {
                return false;
            }
            int missing = 1;
            int j = from;
            for (int i = at; i < size && missing > 0; i++) {
                if (j >= other.size || code[i] != other.code[j]) {
                    return false;
                }
                missing += code[i] < 0 ? -1 : (code[i] >> 2 & 3) - 1;
                j++;
            }
            return missing == 0;
        }

        int depth(int k) {
            int above = 0;
            for (int i = 0; i < k && i < size; i++) {
                if (end(i) > k) {
                    above++;
                }
            }
            return above;
        }

        int families() {
            int found = 0;
            for (int i = 0; i < size; i++) {
                if (kind(code[i]) == FAM) {
                    found++;
                }
            }
            return found;
        }

        int times(int c, int at, int end) {
            int found = 0;
            for (int i = Math.max(at, 0); i < end && i < size; i++) {
                if (code[i] == c) {
                    found++;
                }
            }
            return found;
        }

        boolean standsOutsideFamilies(int c) {
            for (int i = 0; i < size; ) {
                if (code[i] == c) {
                    return true;
                }
                i = kind(code[i]) == FAM ? Math.max(end(i), i + 1) : i + 1;
            }
            return false;
        }
    }

    /** What a TEXT tells, and what Judge found of it. */
    private static final class Told {
        int cons = 0;
        int fams = 0;
        int eqs = 0;
        final int[] conName = new int[CON_ROOM];
        final int[] conCode = new int[CON_ROOM];
        final int[] famName = new int[FAM_ROOM];
        final int[] famCode = new int[FAM_ROOM];
        final boolean[] closed = new boolean[FAM_ROOM];
        final boolean[] back = new boolean[FAM_ROOM];
        final int[] owner = new int[EQ_ROOM];
        final int[] vars = new int[EQ_ROOM];
        final Row[] left = new Row[EQ_ROOM];
        final Row[] right = new Row[EQ_ROOM];
        final boolean[] agreeing = new boolean[EQ_ROOM * EQ_ROOM];
        final int[] badKind = new int[FAM_ROOM];
        final int[] badFirst = new int[FAM_ROOM];
        final int[] badOther = new int[FAM_ROOM];

        Told() {
            for (int i = 0; i < EQ_ROOM; i++) {
                left[i] = new Row(EQ_NODES);
                right[i] = new Row(EQ_NODES);
            }
        }

        void clear() {
            cons = 0;
            fams = 0;
            eqs = 0;
        }

        int codeOf(int name) {
            for (int i = 0; i < cons; i++) {
                if (conName[i] == name) {
                    return conCode[i];
                }
            }
            for (int i = 0; i < fams; i++) {
                if (famName[i] == name) {
                    return famCode[i];
                }
            }
            return NONE;
        }

        int nameOf(int code) {
            int number = Row.number(code);
            if (Row.kind(code) == CON) {
                return number < cons ? conName[number] : 0;
            }
            return Row.kind(code) == FAM && number < fams ? famName[number] : 0;
        }

        void addCon(int name, int arity) {
            if (cons < CON_ROOM) {
                conName[cons] = name;
                conCode[cons] = Row.make(CON, arity, cons);
                cons++;
            }
        }

        void addFam(int name, int arity, boolean isClosed, boolean isBack) {
            if (fams < FAM_ROOM) {
                famName[fams] = name;
                famCode[fams] = Row.make(FAM, arity, fams);
                closed[fams] = isClosed;
                back[fams] = isBack;
                fams++;
            }
        }

        /** The sides are in their rows already: the reader reads into these. */
        void addEquation(int variables) {
            if (eqs < EQ_ROOM && left[eqs].size > 0) {
                owner[eqs] = Row.number(left[eqs].code[0]);
                vars[eqs] = variables;
                eqs++;
            }
        }

        boolean agree(int e, int other) {
            return agreeing[e * EQ_ROOM + other];
        }

        int equationsOf(int f) {
            int found = 0;
            for (int e = 0; e < eqs; e++) {
                if (owner[e] == f) {
                    found++;
                }
            }
            return found;
        }

        int rank(int e) {
            int found = 0;
            for (int i = 0; i < e; i++) {
                if (owner[i] == owner[e]) {
                    found++;
                }
            }
            return found;
        }

        /** FAMILIES on the right sides of a FAMILY's EQUATIONS, as bits. */
        int called(int f) {
            int bits = 0;
            for (int e = 0; e < eqs; e++) {
                for (int i = 0; owner[e] == f && i < right[e].size; i++) {
                    int code = right[e].code[i];
                    if (Row.kind(code) == FAM) {
                        bits |= 1 << Row.number(code);
                    }
                }
            }
            return bits;
        }

        int calledAtLast(int f) {
            int bits = called(f);
            for (int i = 0; i < FAM_ROOM; i++) {
                for (int g = 0; g < fams; g++) {
                    if ((bits >> g & 1) != 0) {
                        bits |= called(g);
                    }
                }
            }
            return bits;
        }

        /** The first two EQUATIONS that are not COMPATIBLE, as one number; NONE if it is COHERENT. */
        int firstParting(int f) {
            for (int e = 0; e < eqs; e++) {
                for (int o = e + 1; o < eqs; o++) {
                    if (owner[e] == f && owner[o] == f && !agree(e, o)) {
                        return e * EQ_ROOM + o;
                    }
                }
            }
            return NONE;
        }

        boolean goesBackwards(int f) {
            return back[f] && badKind[f] == 0;
        }

        /** 0 if an EQUATION is BOUNDED, else the least that fails for a FAMILY on its right. */
        int unbounded(int e) {
            int least = 0;
            Row row = right[e];
            for (int i = 0; i < row.size; i++) {
                if (Row.kind(row.code[i]) == FAM) {
                    int fails = unboundedAt(e, i, row.end(i));
                    if (fails != 0 && (least == 0 || fails < least)) {
                        least = fails;
                    }
                }
            }
            return least;
        }

        private int unboundedAt(int e, int at, int end) {
            Row row = right[e];
            for (int i = at + 1; i < end; i++) {
                if (Row.kind(row.code[i]) == FAM) {
                    return 1;
                }
            }
            if (end - at >= left[e].size) {
                return 2;
            }
            for (int v = 0; v < vars[e]; v++) {
                if (row.times(~v, at, end) > left[e].times(~v, 0, left[e].size)) {
                    return 3;
                }
            }
            return 0;
        }
    }

    /** WANTED and GIVEN as they were told. */
    private static final class Request {
        int givens = 0;
        int wants = 0;
        int unknowns = 0;
        final Row[] givenLeft = new Row[GIVEN_ROOM];
        final Row[] givenRight = new Row[GIVEN_ROOM];
        final Row[] wantLeft = new Row[WANT_ROOM];
        final Row[] wantRight = new Row[WANT_ROOM];
        final int[] words = new int[UNKNOWN_ROOM];

        Request() {
            for (int i = 0; i < GIVEN_ROOM; i++) {
                givenLeft[i] = new Row(WANT_NODES);
                givenRight[i] = new Row(WANT_NODES);
            }
            for (int i = 0; i < WANT_ROOM; i++) {
                wantLeft[i] = new Row(WANT_NODES);
                wantRight[i] = new Row(WANT_NODES);
            }
        }

        void clear() {
            givens = 0;
            wants = 0;
            unknowns = 0;
        }

        int unknownOf(int word) {
            for (int i = 0; i < unknowns; i++) {
                if (words[i] == word) {
                    return i;
                }
            }
            return NONE;
        }
    }

    /** Cuts a text into TOKENS, up to the first place where none begins. */
    private static final class Lexer {
        static final int END = 0;
        static final int WRONG_TOKEN = 1;
        static final int NAME = 2;
        static final int WORD = 3;
        static final int NUMBER = 4;
        private static final int LONGEST = 6;

        // A sign's kind is its byte; NAMES and WORDS have their letters as digits to the base 27.
        final int[] kinds = new int[TAPE_ROOM + 1];
        final int[] values = new int[TAPE_ROOM + 1];
        final int[] places = new int[TAPE_ROOM + 1];
        int count = 0;

        void scan(int[] text, int n) {
            count = 0;
            int length = Math.min(n, text.length);
            for (int at = 0; at < length; ) {
                int c = text[at];
                int end = at + 1;
                if (isLetter(c)) {
                    end = endOfLetters(text, at, length);
                    add(kindOfLetters(text, at, end), valueOfLetters(text, at, end), at);
                } else if (isDigit(c)) {
                    boolean alone = end >= length || !isDigit(text[end]);
                    add(alone ? NUMBER : WRONG_TOKEN, c - '0', at);
                } else if (c != 10 && c != 32) {
                    add(isSign(c) ? c : WRONG_TOKEN, 0, at);
                }
                if (count > 0 && kinds[count - 1] == WRONG_TOKEN) {
                    return;
                }
                at = Math.max(end, at + 1);
            }
            add(END, 0, length);
        }

        private void add(int kind, int value, int place) {
            if (count < kinds.length) {
                kinds[count] = kind;
                values[count] = value;
                places[count] = place;
                count++;
            }
        }

        private static int endOfLetters(int[] text, int at, int length) {
            int i = at;
            while (i < length && isLetter(text[i])) {
                i++;
            }
            return i;
        }

        private static int kindOfLetters(int[] text, int at, int end) {
            for (int i = at + 1; i < end; i++) {
                if (!isLower(text[i])) {
                    return WRONG_TOKEN;
                }
            }
            if (end - at > LONGEST) {
                return WRONG_TOKEN;
            }
            return isLower(text[at]) ? WORD : NAME;
        }

        private static int valueOfLetters(int[] text, int at, int end) {
            int value = 0;
            for (int i = at; i < end; i++) {
                value = value * 27 + (text[i] & 31);
            }
            return value;
        }

        private static boolean isSign(int c) {
            return c == ';' || c == '(' || c == ')' || c == ',' || c == '=' || c == '?';
        }

        private static boolean isLower(int c) {
            return c >= 'a' && c <= 'z';
        }

        private static boolean isLetter(int c) {
            return c >= 'A' && c <= 'Z' || isLower(c);
        }

        private static boolean isDigit(int c) {
            return c >= '0' && c <= '9';
        }
    }

    /** Reads texts token by token and stops at the first FAULT. */
    private static final class Reader {
        private static final int W_CON = (3 * 27 + 15) * 27 + 14;
        private static final int W_OPEN = ((15 * 27 + 16) * 27 + 5) * 27 + 14;
        private static final int W_CLOSED = ((((3 * 27 + 12) * 27 + 15) * 27 + 19) * 27 + 5) * 27 + 4;
        private static final int W_BACK = ((2 * 27 + 1) * 27 + 3) * 27 + 11;
        private static final int W_EQ = 5 * 27 + 17;
        private static final int W_GIVEN = (((7 * 27 + 9) * 27 + 22) * 27 + 5) * 27 + 14;
        private static final int W_WANT = ((23 * 27 + 1) * 27 + 14) * 27 + 20;

        private static final int EQ_LEFT = 0;
        private static final int EQ_RIGHT = 1;
        private static final int WHOLE = 2;
        private static final int GIVEN_LEFT = 3;
        private static final int GIVEN_RIGHT = 4;
        private static final int WANT_LEFT = 5;
        private static final int WANT_RIGHT = 6;

        int faultKind = 0;
        int faultPlace = NONE;
        final int[] words = new int[TERM_VARS];
        private int wordCount = 0;
        private int wordRoom = 0;
        private int mode = WHOLE;
        private final Lexer lexer = new Lexer();
        private int index = 0;
        private int token = Lexer.END;
        private int value = 0;
        private int place = 0;
        private Told told;
        private final Request request;
        private final int[] frameWants = new int[TERM_NODES];
        private final int[] frameHas = new int[TERM_NODES];

        Reader(Told told, Request request) {
            this.told = told;
            this.request = request;
        }

        boolean readTold(int[] bytes, int n, Told into) {
            into.clear();
            begin(bytes, n, into);
            for (int i = 0; i < TAPE_ROOM && token != Lexer.END; i++) {
                boolean good;
                if (isWord(W_CON)) {
                    good = into.cons < CON_ROOM ? readHead(CON, false) : fail(6);
                } else if (isWord(W_OPEN) || isWord(W_CLOSED)) {
                    good = into.fams < FAM_ROOM ? readHead(FAM, isWord(W_CLOSED)) : fail(6);
                } else if (isWord(W_EQ)) {
                    good = into.eqs < EQ_ROOM ? readEquation(into.eqs) : fail(6);
                } else {
                    good = fail(2);
                }
                if (!good) {
                    return false;
                }
            }
            return true;
        }

        boolean readWhole(int[] bytes, int n, Told known, Row into) {
            begin(bytes, n, known);
            forgetWords(TERM_VARS);
            return readSide(into, WHOLE) && (token == Lexer.END || fail(2));
        }

        boolean readRequest(int[] bytes, int n, Told known) {
            request.clear();
            begin(bytes, n, known);
            forgetWords(0);
            for (int i = 0; i < TAPE_ROOM && token != Lexer.END; i++) {
                boolean good;
                if (isWord(W_GIVEN)) {
                    good = request.givens < GIVEN_ROOM ? readGiven(request.givens) : fail(6);
                } else if (isWord(W_WANT)) {
                    good = request.wants < WANT_ROOM ? readWant(request.wants) : fail(6);
                } else {
                    good = fail(2);
                }
                if (!good) {
                    return false;
                }
            }
            return true;
        }

        private void begin(int[] bytes, int n, Told known) {
            lexer.scan(bytes, n);
            index = 0;
            told = known;
            faultKind = 0;
            faultPlace = NONE;
            next();
        }

        private void forgetWords(int room) {
            wordCount = 0;
            wordRoom = room;
        }

        /** Where no TOKEN begins, that is the least kind whatever else would be wrong there. */
        private boolean fail(int kind) {
            faultKind = token == Lexer.WRONG_TOKEN ? 1 : kind;
            faultPlace = place;
            return false;
        }

        private boolean isWord(int word) {
            return token == Lexer.WORD && value == word;
        }

        private boolean readHead(int kind, boolean closed) {
            next();
            if (token != Lexer.NAME) {
                return fail(2);
            }
            int name = value;
            if (told.codeOf(name) != NONE) {
                return fail(4);
            }
            next();
            if (token != Lexer.NUMBER) {
                return fail(2);
            }
            int arity = value;
            if (arity > MOST_ARGUMENTS || kind == FAM && arity == 0) {
                return fail(5);
            }
            next();
            boolean back = kind == FAM && isWord(W_BACK);
            if (back) {
                next();
            }
            if (token != ';') {
                return fail(2);
            }
            if (kind == CON) {
                told.addCon(name, arity);
            } else {
                told.addFam(name, arity, closed, back);
            }
            next();
            return true;
        }

        private boolean readEquation(int e) {
            next();
            forgetWords(EQ_VARS);
            if (!readBoth(told.left[e], told.right[e], EQ_LEFT, EQ_RIGHT)) {
                return false;
            }
            told.addEquation(wordCount);
            return true;
        }

        private boolean readGiven(int i) {
            next();
            if (!readBoth(request.givenLeft[i], request.givenRight[i], GIVEN_LEFT, GIVEN_RIGHT)) {
                return false;
            }
            request.givens++;
            return true;
        }

        private boolean readWant(int i) {
            next();
            if (!readBoth(request.wantLeft[i], request.wantRight[i], WANT_LEFT, WANT_RIGHT)) {
                return false;
            }
            request.wants++;
            return true;
        }

        private boolean readBoth(Row left, Row right, int leftMode, int rightMode) {
            if (!readSide(left, leftMode)) {
                return false;
            }
            if (token != '=') {
                return fail(2);
            }
            next();
            if (!readSide(right, rightMode)) {
                return false;
            }
            if (token != ';') {
                return fail(2);
            }
            next();
            return true;
        }

        /** A TERM, without recursion: the NAMES whose ARGUMENTS are being read are frames. */
        private boolean readSide(Row row, int side) {
            row.size = 0;
            mode = side;
            int depth = 0;
            for (int i = 0; i < TAPE_ROOM; i++) {
                boolean named = token == Lexer.NAME;
                if (!readNode(row)) {
                    return false;
                }
                int wants = Row.arity(row.code[row.size - 1]);
                if (wants > 0) {
                    if (token != '(' || depth >= TERM_NODES) {
                        return fail(endsTerm(depth) ? 5 : 2);
                    }
                    frameWants[depth] = wants;
                    frameHas[depth] = 0;
                    depth++;
                    next();
                    continue;
                }
                if (named && token == '(') {
                    return fail(5);
                }
                depth = closeFrames(depth);
                if (depth <= 0) {
                    return depth == 0;
                }
            }
            return fail(2);
        }

        /** Behind a whole ARGUMENT: the depth at which another one comes, 0 at the TERM's end, NONE. */
        private int closeFrames(int depth) {
            for (int d = depth - 1; d >= 0; d--) {
                frameHas[d]++;
                if (token == ',' && frameHas[d] < frameWants[d]) {
                    next();
                    return d + 1;
                }
                if (token != ')' || frameHas[d] < frameWants[d]) {
                    fail(token == ',' || token == ')' ? 5 : 2);
                    return NONE;
                }
                next();
            }
            return 0;
        }

        /** Whether a sign stands here that would end a TERM; THE TERM is ended by no sign. */
        private boolean endsTerm(int depth) {
            if (depth > 0) {
                return token == ',' || token == ')';
            }
            if (mode == WHOLE) {
                return false;
            }
            boolean left = mode == EQ_LEFT || mode == GIVEN_LEFT || mode == WANT_LEFT;
            return token == (left ? '=' : ';');
        }

        private boolean isVariable() {
            return token == Lexer.WORD && value != W_CON && value != W_OPEN && value != W_CLOSED
                && value != W_BACK && value != W_EQ && value != W_GIVEN && value != W_WANT;
        }

        /** The checks stand in the order of the kinds: of one TOKEN the least is told. */
        private boolean readNode(Row row) {
            if (token == '?' && mode >= GIVEN_LEFT) {
                return readUnknown(row);
            }
            boolean named = token == Lexer.NAME;
            if (!named && !isVariable()) {
                return fail(2);
            }
            int known = named ? told.codeOf(value) : indexOfWord(value);
            if (known == NONE && (named || mode == EQ_RIGHT)) {
                return fail(3);
            }
            boolean fresh = !named && known == NONE && mode <= WHOLE;
            if (row.size >= row.code.length || fresh && wordCount >= wordRoom) {
                return fail(6);
            }
            boolean first = row.size == 0;
            boolean family = named && Row.kind(known) == FAM;
            if (mode == EQ_LEFT && family != first || mode == GIVEN_LEFT && first && !family) {
                return fail(7);
            }
            if (fresh) {
                known = wordCount;
                words[wordCount] = value;
                wordCount++;
            }
            // In an EQUATION a VARIABLE is its number, elsewhere its WORD.
            row.add(named ? known : mode <= EQ_RIGHT ? ~known : ~value);
            next();
            return true;
        }

        private boolean readUnknown(Row row) {
            if (row.size >= row.code.length) {
                return fail(6);
            }
            if (mode == GIVEN_LEFT || mode == GIVEN_RIGHT) {
                return fail(7);
            }
            next();
            if (token != Lexer.WORD) {
                return fail(2);
            }
            int k = request.unknownOf(value);
            if (k == NONE) {
                k = request.unknowns;
                if (k >= UNKNOWN_ROOM) {
                    return fail(6);
                }
                request.words[k] = value;
                request.unknowns++;
            }
            row.add(Row.make(UNKNOWN, 0, k));
            next();
            return true;
        }

        private int indexOfWord(int word) {
            for (int i = 0; i < wordCount; i++) {
                if (words[i] == word) {
                    return i;
                }
            }
            return NONE;
        }

        private void next() {
            if (index < lexer.count) {
                token = lexer.kinds[index];
                value = lexer.values[index];
                place = lexer.places[index];
                index++;
            }
        }
    }

    /**
     * JOINS TERMS without a look for circles: NODES in classes of those that become the same. A
     * circle is looked for only behind that, for what is APART with endless TERMS is told first.
     */
    private static final class Joiner {
        private static final int ROOM = 128;
        // No WORD's complement: a FAMILY that is a VARIABLE in a TERM made FLAT.
        private static final int HIDDEN = -1000000000;

        private int count = 0;
        private final int[] sym = new int[ROOM];
        private final int[] whose = new int[ROOM];
        private final int[] from = new int[ROOM];
        private final int[] up = new int[ROOM];
        private final int[] name = new int[ROOM];
        private final boolean[] mark = new boolean[ROOM];
        private final int[] kid = new int[ROOM * MOST_ARGUMENTS];
        private final int[] stack = new int[ROOM * 8];
        private final int[] frame = new int[ROOM];
        private final int[] filled = new int[ROOM];

        void clear() {
            count = 0;
        }

        /** Lays a TERM out and answers its first NODE (NONE if there is no room). */
        int lay(Row row, int start, int who, boolean flat) {
            int end = row.end(start);
            int root = NONE;
            int depth = 0;
            for (int i = start; i < end; ) {
                int code = row.code[i];
                boolean hide = flat && i > start && Row.kind(code) == FAM;
                boolean variable = hide || code < 0 || Row.kind(code) == UNKNOWN;
                int sign = hide ? HIDDEN : code;
                int node = NONE;
                for (int n = 0; variable && n < count && node == NONE; n++) {
                    if (whose[n] == who && sym[n] == sign && (!hide || row.samePart(from[n], row, i))) {
                        node = n;
                    }
                }
                if (node == NONE) {
                    if (count >= ROOM) {
                        return NONE;
                    }
                    node = count;
                    count++;
                    sym[node] = sign;
                    whose[node] = who;
                    from[node] = i;
                    up[node] = node;
                }
                for (int d = depth - 1; d >= 0 && filled[d] >= Row.arity(sym[frame[d]]); d--) {
                    depth = d;
                }
                if (depth > 0) {
                    kid[frame[depth - 1] * MOST_ARGUMENTS + filled[depth - 1]] = node;
                    filled[depth - 1]++;
                } else {
                    root = node;
                }
                if (!variable && Row.arity(code) > 0 && depth < ROOM) {
                    frame[depth] = node;
                    filled[depth] = 0;
                    depth++;
                }
                i = hide ? Math.max(row.end(i), i + 1) : i + 1;
            }
            return root;
        }

        private boolean isVariable(int n) {
            return sym[n] < 0 || (sym[n] & 3) == UNKNOWN;
        }

        private int top(int n) {
            int t = n;
            for (int i = 0; i < ROOM && up[t] != t; i++) {
                t = up[t];
            }
            return t;
        }

        /**
         * Makes two TERMS the same; false where they can't be. If it is rigid, no VARIABLE becomes
         * anything: it is only asked whether the two are the same by the JOINING so far.
         */
        boolean join(int a, int b, boolean rigid) {
            if (a < 0 || b < 0) {
                return false;
            }
            stack[0] = a;
            stack[1] = b;
            int size = 2;
            for (int i = 0; i < MILLION && size > 1; i++) {
                size -= 2;
                int x = top(stack[size]);
                int y = top(stack[size + 1]);
                if (x == y) {
                    continue;
                }
                boolean free = isVariable(x) || isVariable(y);
                if (free ? rigid : sym[x] != sym[y]) {
                    return false;
                }
                if (isVariable(x)) {
                    up[x] = y;
                    continue;
                }
                up[y] = x;
                int arity = isVariable(y) ? 0 : Row.arity(sym[x]);
                for (int k = arity - 1; k >= 0 && size + 2 <= stack.length; k--) {
                    stack[size] = kid[x * MOST_ARGUMENTS + k];
                    stack[size + 1] = kid[y * MOST_ARGUMENTS + k];
                    size += 2;
                }
            }
            return true;
        }

        /** Whether some class has itself in it: classes that end are marked, from their ends on. */
        boolean hasCircle() {
            for (int n = 0; n < count; n++) {
                mark[n] = false;
            }
            boolean more = true;
            for (int i = 0; i <= count && more; i++) {
                more = false;
                for (int n = 0; n < count; n++) {
                    if (up[n] == n && !mark[n] && kidsAreMarked(n)) {
                        mark[n] = true;
                        more = true;
                    }
                }
            }
            for (int n = 0; n < count; n++) {
                if (up[n] == n && !mark[n]) {
                    return true;
                }
            }
            return false;
        }

        private boolean kidsAreMarked(int n) {
            int arity = isVariable(n) ? 0 : Row.arity(sym[n]);
            for (int k = 0; k < arity; k++) {
                if (!mark[top(kid[n * MOST_ARGUMENTS + k])]) {
                    return false;
                }
            }
            return true;
        }

        /** VARIABLES under a NODE get numbers in the order in which they first stand there. */
        void nameVariables(int root) {
            for (int n = 0; n < count; n++) {
                mark[n] = false;
            }
            int names = 0;
            int size = 0;
            if (root >= 0) {
                stack[0] = root;
                size = 1;
            }
            for (int i = 0; i < MILLION && size > 0; i++) {
                size--;
                int n = top(stack[size]);
                if (mark[n]) {
                    continue;
                }
                mark[n] = true;
                if (isVariable(n)) {
                    name[n] = names;
                    names++;
                    continue;
                }
                for (int k = Row.arity(sym[n]) - 1; k >= 0 && size < stack.length; k--) {
                    stack[size] = kid[n * MOST_ARGUMENTS + k];
                    size++;
                }
            }
        }

        /** The code of what a NODE has become: of a VARIABLE the complement of its number. */
        int joinedCode(int n) {
            int t = top(n);
            return isVariable(t) ? ~name[t] : sym[t];
        }

        int joinedKid(int n, int k) {
            return kid[top(n) * MOST_ARGUMENTS + k];
        }
    }

    /** Finds what holds of EQUATIONS and FAMILIES as they are told. */
    private static final class Judge {
        private final Joiner joiner;
        int leftRoot = NONE;

        Judge(Joiner joiner) {
            this.joiner = joiner;
        }

        void judgeAll(Told told) {
            for (int e = 0; e < told.eqs; e++) {
                for (int o = 0; o <= e; o++) {
                    boolean agree = told.owner[e] == told.owner[o] && rightsAgree(told, o, e);
                    told.agreeing[e * EQ_ROOM + o] = agree;
                    told.agreeing[o * EQ_ROOM + e] = agree;
                }
            }
            for (int f = 0; f < told.fams; f++) {
                judgeBackwards(told, f);
            }
        }

        int meetLefts(Told told, int e, int other) {
            joiner.clear();
            leftRoot = joiner.lay(told.left[e], 0, 0, false);
            int root = joiner.lay(told.left[other], 0, 1, false);
            if (!joiner.join(leftRoot, root, false)) {
                return APART;
            }
            return joiner.hasCircle() ? CIRCLE : MEET;
        }

        private boolean rightsAgree(Told told, int e, int other) {
            int how = meetLefts(told, e, other);
            if (how != MEET) {
                return how == APART;
            }
            int a = joiner.lay(told.right[e], 0, 0, false);
            int b = joiner.lay(told.right[other], 0, 1, false);
            return joiner.join(a, b, true);
        }

        private void judgeBackwards(Told told, int f) {
            told.badKind[f] = 0;
            told.badFirst[f] = NONE;
            told.badOther[f] = NONE;
            for (int e = 0; e < told.eqs && told.badKind[f] == 0; e++) {
                if (told.owner[e] == f) {
                    told.badKind[f] = badAlone(told, e);
                    told.badFirst[f] = e;
                }
            }
            for (int e = 0; e < told.eqs && told.badKind[f] == 0; e++) {
                for (int o = e + 1; o < told.eqs && told.badKind[f] == 0; o++) {
                    if (told.owner[e] == f && told.owner[o] == f && badTogether(told, e, o)) {
                        told.badKind[f] = 4;
                        told.badFirst[f] = e;
                        told.badOther[f] = o;
                    }
                }
            }
        }

        private int badAlone(Told told, int e) {
            Row left = told.left[e];
            Row right = told.right[e];
            int kind = Row.kind(right.code[0]);
            boolean oneVariable = left.size == 2 && left.code[1] < 0;
            if (kind == VARIABLE && (!oneVariable || told.equationsOf(told.owner[e]) != 1)) {
                return 1;
            }
            if (kind == FAM) {
                return 2;
            }
            for (int v = 0; v < told.vars[e]; v++) {
                if (!right.standsOutsideFamilies(~v)) {
                    return 3;
                }
            }
            return 0;
        }

        private boolean badTogether(Told told, int e, int other) {
            joiner.clear();
            int a = joiner.lay(told.right[e], 0, 0, true);
            int b = joiner.lay(told.right[other], 0, 1, true);
            if (!joiner.join(a, b, false) || joiner.hasCircle()) {
                return false;
            }
            int x = joiner.lay(told.left[e], 0, 0, false);
            int y = joiner.lay(told.left[other], 0, 1, false);
            return !joiner.join(x, y, true);
        }
    }

    /** Finds where EQUATIONS FIRE in a TERM, and does STEPS in its own row. */
    private static final class Reducer {
        private final Joiner joiner;
        private final Request request;
        Told told;
        final Row work = new Row(TERM_NODES);
        boolean byGivens = false;
        int foundEquation = NONE;
        int steps = 0;
        int circle = 0;
        private int foundAt = 0;
        private int foundGiven = NONE;
        private final Row spare = new Row(TERM_NODES);
        private final Row[] past = new Row[MOST_STEPS + 1];
        private final int[] order = new int[TERM_NODES];
        private final int[] frame = new int[TERM_NODES];
        private final int[] missing = new int[TERM_NODES];
        private final int[] boundAt = new int[EQ_VARS];

        Reducer(Joiner joiner, Told told, Request request) {
            this.joiner = joiner;
            this.told = told;
            this.request = request;
            for (int i = 0; i <= MOST_STEPS; i++) {
                past[i] = new Row(TERM_NODES);
            }
        }

        /** Where a VARIABLE stands again, the same TERM must stand in the row again. */
        boolean fits(int e, Row row, int at) {
            Row left = told.left[e];
            for (int v = 0; v < EQ_VARS; v++) {
                boundAt[v] = NONE;
            }
            int j = at;
            for (int i = 0; i < left.size; i++) {
                if (j >= row.size) {
                    return false;
                }
                int code = left.code[i];
                if (code >= 0) {
                    if (code != row.code[j]) {
                        return false;
                    }
                    j++;
                    continue;
                }
                int v = ~code;
                if (v >= EQ_VARS || boundAt[v] != NONE && !row.samePart(boundAt[v], row, j)) {
                    return false;
                }
                if (boundAt[v] == NONE) {
                    boundAt[v] = j;
                }
                j = row.end(j);
            }
            return true;
        }

        /** The first earlier EQUATION of a closed FAMILY that may still FIRE there. */
        int firstStill(int e, Row row, int at) {
            int f = told.owner[e];
            if (!told.closed[f]) {
                return NONE;
            }
            for (int i = 0; i < e; i++) {
                if (told.owner[i] != f || told.agree(i, e)) {
                    continue;
                }
                joiner.clear();
                int a = joiner.lay(told.left[i], 0, 0, false);
                int b = joiner.lay(row, at, 1, true);
                if (joiner.join(a, b, false)) {
                    return i;
                }
            }
            return NONE;
        }

        int reason(int e, Row row, int at) {
            if (row.code[at] != told.famCode[told.owner[e]]) {
                return 1;
            }
            if (!fits(e, row, at)) {
                return 2;
            }
            return firstStill(e, row, at) == NONE ? 0 : 3;
        }

        int firingAt(Row row, int at) {
            for (int e = 0; e < told.eqs; e++) {
                boolean its = row.code[at] == told.famCode[told.owner[e]];
                if (its && fits(e, row, at) && firstStill(e, row, at) == NONE) {
                    return e;
                }
            }
            return NONE;
        }

        int firingPlaces(Row row) {
            int found = 0;
            for (int i = 0; i < row.size; i++) {
                if (firingAt(row, i) != NONE) {
                    found++;
                }
            }
            return found;
        }

        boolean findPlace(int way) {
            orderPlaces(way);
            for (int i = 0; i < work.size; i++) {
                foundAt = order[i];
                if (Row.kind(work.code[foundAt]) != FAM) {
                    continue;
                }
                foundEquation = NONE;
                foundGiven = givenAt(foundAt);
                if (foundGiven == NONE) {
                    foundEquation = firingAt(work, foundAt);
                }
                if (foundGiven != NONE || foundEquation != NONE) {
                    return true;
                }
            }
            return false;
        }

        private int givenAt(int at) {
            for (int g = 0; byGivens && g < request.givens; g++) {
                if (work.samePart(at, request.givenLeft[g], 0)) {
                    return g;
                }
            }
            return NONE;
        }

        private void orderPlaces(int way) {
            int done = 0;
            int depth = 0;
            for (int i = 0; i < work.size; i++) {
                if (way == 1) {
                    order[i] = i;
                    continue;
                }
                frame[depth] = i;
                missing[depth] = Row.arity(work.code[i]);
                depth++;
                for (int d = depth - 1; d >= 0 && missing[d] == 0; d--) {
                    order[done] = frame[d];
                    done++;
                    depth = d;
                    if (d > 0) {
                        missing[d - 1]--;
                    }
                }
            }
        }

        /** Does the STEP that was found; false, with nothing done, if it is GREAT. */
        boolean rewrite() {
            boolean given = foundGiven != NONE;
            if (!given && foundEquation == NONE) {
                return false;
            }
            Row right = given ? request.givenRight[foundGiven] : told.right[foundEquation];
            spare.size = 0;
            boolean room = spare.addPart(work, 0, foundAt);
            for (int i = 0; i < right.size && room; i++) {
                int code = right.code[i];
                if (given || code >= 0 || ~code >= EQ_VARS) {
                    room = spare.add(code);
                } else {
                    int from = boundAt[~code];
                    room = spare.addPart(work, from, work.end(from));
                }
            }
            if (!room || !spare.addPart(work, work.end(foundAt), work.size)) {
                return false;
            }
            work.take(spare);
            return true;
        }

        /** REDUCES its row: 0 if it ENDS, else the STATUS that tells why it doesn't. */
        int reduceAll(int way) {
            steps = 0;
            for (int i = 0; i <= MOST_STEPS; i++) {
                past[i].take(work);
                if (!findPlace(way)) {
                    return 0;
                }
                if (i == MOST_STEPS) {
                    return 8;
                }
                if (!rewrite()) {
                    return 6;
                }
                steps++;
                for (int p = 0; p <= i; p++) {
                    if (past[p].same(work)) {
                        circle = steps - p;
                        return 7;
                    }
                }
            }
            return 8;
        }
    }

    /** Solves WANTED equalities. */
    private static final class Solver {
        private static final int STAYS = 0;
        private static final int GOES = 4;

        boolean asked = false;
        int size = 0;
        int wrong = 0;
        int wrongOrigin = NONE;
        int rounds = 0;
        int unknowns = 0;
        int bound = 0;
        final int[] words = new int[UNKNOWN_ROOM];
        final Row[] values = new Row[UNKNOWN_ROOM];
        private boolean changed = false;
        // The first ones are the list, in its order; those behind them are free.
        private final int[] slots = new int[LIST_ROOM];
        private final int[] origin = new int[LIST_ROOM];
        private final Row[] left = new Row[LIST_ROOM];
        private final Row[] right = new Row[LIST_ROOM];
        private final Row[] openRow = new Row[UNKNOWN_ROOM + 1];
        private final int[] openAt = new int[UNKNOWN_ROOM + 1];

        Solver() {
            for (int i = 0; i < LIST_ROOM; i++) {
                slots[i] = i;
                left[i] = new Row(TERM_NODES);
                right[i] = new Row(TERM_NODES);
            }
            for (int i = 0; i < UNKNOWN_ROOM; i++) {
                values[i] = new Row(TERM_NODES);
            }
        }

        void forget() {
            asked = false;
            size = 0;
            unknowns = 0;
            bound = 0;
        }

        void begin(Request request) {
            asked = true;
            wrong = 0;
            wrongOrigin = NONE;
            rounds = 0;
            bound = 0;
            changed = true;
            unknowns = request.unknowns;
            System.arraycopy(request.words, 0, words, 0, UNKNOWN_ROOM);
            size = request.wants;
            for (int i = 0; i < size; i++) {
                int slot = slots[i];
                left[slot].take(request.wantLeft[i]);
                right[slot].take(request.wantRight[i]);
                origin[slot] = i;
            }
        }

        boolean goesOn() {
            return wrong == 0 && changed;
        }

        boolean isBound(int k) {
            return (bound >> k & 1) != 0;
        }

        void oneRound(Told told, Reducer reducer) {
            rounds++;
            changed = false;
            int todo = size;
            int at = 0;
            for (int i = 0; i < todo && wrong == 0; i++) {
                int slot = slots[at];
                int how = 3;
                if (expand(left[slot], reducer.work) && reducer.reduceAll(0) == 0) {
                    left[slot].take(reducer.work);
                    if (expand(right[slot], reducer.work) && reducer.reduceAll(0) == 0) {
                        right[slot].take(reducer.work);
                        how = settle(told, slot);
                    }
                }
                if (how == GOES) {
                    changed = true;
                    remove(at);
                } else {
                    at++;
                }
                if (how != GOES && how != STAYS) {
                    wrong = how;
                    wrongOrigin = origin[slot];
                }
            }
        }

        private void remove(int at) {
            int slot = slots[at];
            for (int i = at; i + 1 < size; i++) {
                slots[i] = slots[i + 1];
            }
            size--;
            slots[size] = slot;
        }

        /** What becomes of an EQUALITY with both sides REDUCED: STAYS, GOES, or by what it is WRONG. */
        private int settle(Told told, int slot) {
            Row a = left[slot];
            Row b = right[slot];
            if (a.same(b)) {
                return GOES;
            }
            int x = a.code[0];
            int y = b.code[0];
            if (Row.kind(x) == UNKNOWN) {
                return become(x, b);
            }
            if (Row.kind(y) == UNKNOWN) {
                return become(y, a);
            }
            if (Row.kind(x) == CON && Row.kind(y) == CON) {
                return x == y ? takeApart(slot) : 1;
            }
            if (Row.kind(x) == FAM && x == y && told.goesBackwards(Row.number(x))) {
                return takeApart(slot);
            }
            return Row.kind(x) == FAM || Row.kind(y) == FAM ? STAYS : 1;
        }

        private int become(int unknown, Row row) {
            if (row.times(unknown, 0, row.size) > 0) {
                return row.standsOutsideFamilies(unknown) ? 2 : STAYS;
            }
            int k = Row.number(unknown);
            if (k >= UNKNOWN_ROOM) {
                return STAYS;
            }
            values[k].take(row);
            bound |= 1 << k;
            return GOES;
        }

        /** The EQUALITY itself is still in the list here: it counts where the list grows too long. */
        private int takeApart(int slot) {
            Row a = left[slot];
            Row b = right[slot];
            int arity = Row.arity(a.code[0]);
            int i = 1;
            int j = 1;
            for (int k = 0; k < arity; k++) {
                if (size >= LIST_ROOM) {
                    return 3;
                }
                int fresh = slots[size];
                size++;
                left[fresh].takePart(a, i);
                right[fresh].takePart(b, j);
                origin[fresh] = origin[slot];
                i = a.end(i);
                j = b.end(j);
            }
            return GOES;
        }

        /**
         * A row with what UNKNOWNS are for these; false if it is GREAT. An UNKNOWN is never in what
         * it is, so no more rows stand open at once than there are UNKNOWNS and the first one.
         */
        boolean expand(Row row, Row into) {
            into.size = 0;
            openRow[0] = row;
            openAt[0] = 0;
            int depth = 1;
            for (int i = 0; i < MILLION && depth > 0; i++) {
                Row from = openRow[depth - 1];
                int at = openAt[depth - 1];
                if (at >= from.size) {
                    depth--;
                    continue;
                }
                openAt[depth - 1]++;
                int code = from.code[at];
                int k = Row.number(code);
                boolean known = Row.kind(code) == UNKNOWN && k < UNKNOWN_ROOM && isBound(k);
                if (known && depth < openRow.length) {
                    openRow[depth] = values[k];
                    openAt[depth] = 0;
                    depth++;
                } else if (!into.add(code)) {
                    return false;
                }
            }
            return true;
        }
    }

    /** OUT: bytes that grow where the ENDS of two EQUATIONS are long. */
    private static final class Printer {
        private static final int HIGHEST_PLACE = 27 * 27 * 27 * 27 * 27;
        private static final int COMMA = -1;
        private static final int CLOSE = -2;

        int size = 0;
        int[] bytes = new int[1024];
        private final int[] stack = new int[1024];

        private void put(int c) {
            if (size >= bytes.length) {
                if (bytes.length > MILLION) {
                    return;
                }
                int[] longer = new int[bytes.length * 2];
                System.arraycopy(bytes, 0, longer, 0, size);
                bytes = longer;
            }
            bytes[size] = c;
            size++;
        }

        private void putLetters(int word, int first) {
            int base = first;
            for (int p = HIGHEST_PLACE; p > 0; p /= 27) {
                int letter = word / p % 27;
                if (letter > 0) {
                    put(base + letter - 1);
                    base = 'a';
                }
            }
        }

        void putRow(Row row, Told told, int[] unknownWords) {
            int depth = 0;
            for (int i = 0; i < row.size; i++) {
                putCode(row.code[i], told, unknownWords);
                int arity = Row.arity(row.code[i]);
                if (arity > 0 && depth < stack.length) {
                    put('(');
                    stack[depth] = arity;
                    depth++;
                    continue;
                }
                for (int d = depth - 1; d >= 0; d--) {
                    stack[d]--;
                    if (stack[d] > 0) {
                        put(',');
                        break;
                    }
                    put(')');
                    depth = d;
                }
            }
        }

        private void putCode(int code, Told told, int[] unknownWords) {
            if (code < 0) {
                putLetters(~code, 'a');
                return;
            }
            if (Row.kind(code) == UNKNOWN) {
                put('?');
                int k = Row.number(code);
                putLetters(k < unknownWords.length ? unknownWords[k] : 0, 'a');
                return;
            }
            putLetters(told.nameOf(code), 'A');
        }

        /** What a NODE has become; parts that are shared are told as often as they stand. */
        void putJoined(Joiner joiner, int root, Told told) {
            int depth = 0;
            if (root >= 0) {
                stack[0] = root;
                depth = 1;
            }
            for (int i = 0; i < MILLION && depth > 0; i++) {
                depth--;
                int n = stack[depth];
                if (n < 0) {
                    put(n == COMMA ? ',' : ')');
                    continue;
                }
                int code = joiner.joinedCode(n);
                if (code < 0) {
                    put('a' + ~code);
                    continue;
                }
                putLetters(told.nameOf(code), 'A');
                int arity = Row.arity(code);
                if (arity == 0 || depth + 2 * arity > stack.length) {
                    continue;
                }
                put('(');
                for (int k = arity - 1; k >= 0; k--) {
                    stack[depth] = k == arity - 1 ? CLOSE : COMMA;
                    stack[depth + 1] = joiner.joinedKid(n, k);
                    depth += 2;
                }
            }
        }
    }
}
