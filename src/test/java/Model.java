import java.util.ArrayList;
import java.util.HashMap;
import java.util.HashSet;
import java.util.LinkedHashMap;
import java.util.LinkedHashSet;
import java.util.List;
import java.util.Map;
import java.util.Set;

/**
 * The document once more, written as plainly as can be with trees, maps and recursion, to hold
 * FamilyReducer against. It shares no code and, where it can, no algorithm with it.
 */
final class Model {
    static final int NONE = -1;
    static final Set<String> KEPT = Set.of("con", "open", "closed", "back", "eq", "given", "want");

    /** kind 0 a VARIABLE, 1 a CONSTRUCTOR, 2 a FAMILY, 3 an UNKNOWN. */
    record T(int kind, String name, List<T> args) {
        @Override public String toString() {
            StringBuilder b = new StringBuilder(kind == 3 ? "?" : "").append(name);
            for (int i = 0; i < args.size(); i++) {
                b.append(i == 0 ? "(" : ",").append(args.get(i));
            }
            return args.isEmpty() ? b.toString() : b.append(")").toString();
        }
        int nodes() {
            int n = 1;
            for (T a : args) {
                n += a.nodes();
            }
            return n;
        }
        int deep() {
            int n = 0;
            for (T a : args) {
                n = Math.max(n, a.deep());
            }
            return n + 1;
        }
        boolean has(T t) {
            return equals(t) || args.stream().anyMatch(a -> a.has(t));
        }
        boolean hasOutside(T t) {
            return equals(t) || kind != 2 && args.stream().anyMatch(a -> a.hasOutside(t));
        }
        void all(List<T> into) {
            into.add(this);
            for (T a : args) {
                a.all(into);
            }
        }
        List<T> all() {
            List<T> l = new ArrayList<>();
            all(l);
            return l;
        }
    }

    record Told(String name, boolean family, int number, int arity, boolean closed, boolean back) { }
    record Eq(String family, T left, T right) { }
    record Equality(T left, T right, int origin) { }

    static final class Fault extends Exception {
        final int kind;
        final int place;
        Fault(int kind, int place) {
            this.kind = kind;
            this.place = place;
        }
    }

    private final StringBuilder tape = new StringBuilder();
    private int status = 0;
    private int faultKind = NONE;
    private int faultPlace = NONE;
    private Map<String, Told> told = new LinkedHashMap<>();
    private List<Eq> eqs = new ArrayList<>();
    private T theTerm = null;
    private List<String> termVars = new ArrayList<>();
    private int period = NONE;
    private String out = null;
    private boolean asked = false;
    private List<Equality> list = new ArrayList<>();
    private List<String> unknowns = new ArrayList<>();
    private Map<String, T> values = new HashMap<>();
    private int wrong = 0;
    private int wrongOrigin = NONE;
    private int rounds = 0;

    // ---------------------------------------------------------------- reading

    private final class Parser {
        final String text;
        final Map<String, Told> names;
        int at = 0;
        String tok;
        int place;
        List<String> vars = new ArrayList<>();
        List<String> asks = new ArrayList<>();
        int nodes;

        Parser(String text, Map<String, Told> names) {
            this.text = text;
            this.names = names;
            next();
        }

        /** "" at the end, null where no TOKEN begins. */
        void next() {
            while (at < text.length() && (text.charAt(at) == ' ' || text.charAt(at) == '\n')) {
                at++;
            }
            place = at;
            if (at == text.length()) {
                tok = "";
                return;
            }
            String rest = text.substring(at);
            String row = rest.replaceFirst("(?s)^([A-Za-z]+|[0-9]+|.).*$", "$1");
            tok = row.matches("[A-Z][a-z]{0,5}|[a-z]{1,6}|[0-9]|[;(),=?]") ? row : null;
            at += row.length();
        }

        Fault fault(int kind) {
            return new Fault(tok == null ? 1 : kind, place);
        }

        boolean isName() {
            return tok != null && tok.matches("[A-Z].*");
        }

        boolean isWord() {
            return tok != null && tok.matches("[a-z].*");
        }

        boolean is(String s) {
            return s.equals(tok);
        }

        void need(String s) throws Fault {
            if (!is(s)) {
                throw fault(2);
            }
            next();
        }

        /** where: 'l' and 'r' of an EQUATION, 't' THE TERM, 'g' 'h' of a GIVEN, 'w' 'x' of a WANTED. */
        T side(char where) throws Fault {
            nodes = 0;
            return side(where, 0);
        }

        int mostNodes(char where) {
            return where == 'l' || where == 'r' ? 16 : where == 't' ? 60 : 30;
        }

        T side(char where, int depth) throws Fault {
            boolean first = nodes == 0;
            nodes++;
            boolean full = nodes > mostNodes(where);
            if (is("?") && "ghwx".indexOf(where) >= 0) {
                if (full) {
                    throw fault(6);
                }
                if (where == 'g' || where == 'h') {
                    throw fault(7);
                }
                next();
                if (!isWord()) {
                    throw fault(2);
                }
                if (!asks.contains(tok)) {
                    if (asks.size() == 6) {
                        throw fault(6);
                    }
                    asks.add(tok);
                }
                T u = new T(3, tok, List.of());
                next();
                return u;
            }
            if (isWord() && !KEPT.contains(tok)) {
                String v = tok;
                boolean fresh = !vars.contains(v);
                if (where == 'r' && fresh) {
                    throw fault(3);
                }
                int most = where == 'l' ? 6 : where == 't' ? 12 : 1000;
                if (full || fresh && vars.size() == most) {
                    throw fault(6);
                }
                if (first && (where == 'l' || where == 'g')) {
                    throw fault(7);
                }
                if (fresh) {
                    vars.add(v);
                }
                next();
                return new T(0, v, List.of());
            }
            if (!isName()) {
                throw fault(2);
            }
            Told t = names.get(tok);
            if (t == null) {
                throw fault(3);
            }
            if (full) {
                throw fault(6);
            }
            if (where == 'l' && first != t.family || where == 'g' && first && !t.family) {
                throw fault(7);
            }
            next();
            List<T> args = new ArrayList<>();
            if (!is("(")) {
                if (t.arity > 0) {
                    String ender = "lgw".indexOf(where) >= 0 ? "=" : ";";
                    boolean ends = depth > 0 ? is(",") || is(")") : where != 't' && is(ender);
                    throw fault(ends ? 5 : 2);
                }
                return new T(1, t.name, args);
            }
            if (t.arity == 0) {
                throw fault(5);
            }
            next();
            args.add(side(where, depth + 1));
            while (is(",")) {
                if (args.size() == t.arity) {
                    throw fault(5);
                }
                next();
                args.add(side(where, depth + 1));
            }
            if (!is(")")) {
                throw fault(2);
            }
            if (args.size() < t.arity) {
                throw fault(5);
            }
            next();
            return new T(t.family ? 2 : 1, t.name, args);
        }
    }

    private String takeText(int n) {
        String text = tape.substring(0, n);
        tape.setLength(0);
        return text;
    }

    private int refuse(int s) {
        status = s;
        return NONE;
    }

    private int give(int v) {
        status = 0;
        return v;
    }

    private int faulty(Fault f) {
        faultKind = f.kind;
        faultPlace = f.place;
        return refuse(9);
    }

    private void noFault() {
        faultKind = 0;
        faultPlace = NONE;
    }

    int status() {
        return status;
    }

    int feed(int a, int b, int c, int d, int e) {
        if (tape.length() + 20 > 900) {
            return NONE;
        }
        for (int x : new int[] {a, b, c, d, e}) {
            for (int s = 24; s >= 0; s -= 8) {
                tape.append((char) (x >>> s & 255));
            }
        }
        return tape.length();
    }

    int fault(int what) {
        return what == 0 ? faultKind : what == 1 ? faultPlace : NONE;
    }

    int load(int n) {
        if (n < 0 || n > tape.length()) {
            return refuse(1);
        }
        Map<String, Told> names = new LinkedHashMap<>();
        List<Eq> found = new ArrayList<>();
        Parser p = new Parser(takeText(n), names);
        try {
            while (!p.is("")) {
                loadLine(p, names, found);
            }
        } catch (Fault f) {
            return faulty(f);
        }
        noFault();
        told = names;
        eqs = found;
        theTerm = null;
        period = NONE;
        asked = false;
        unknowns = new ArrayList<>();
        return give(eqs.size());
    }

    private void loadLine(Parser p, Map<String, Told> names, List<Eq> found) throws Fault {
        boolean family = p.is("open") || p.is("closed");
        boolean closed = p.is("closed");
        if (family || p.is("con")) {
            long have = names.values().stream().filter(t -> t.family == family).count();
            if (have == (family ? 5 : 8)) {
                throw p.fault(6);
            }
            p.next();
            if (!p.isName()) {
                throw p.fault(2);
            }
            String name = p.tok;
            if (names.containsKey(name)) {
                throw p.fault(4);
            }
            p.next();
            if (p.tok == null || !p.tok.matches("[0-9]")) {
                throw p.fault(2);
            }
            int arity = p.tok.charAt(0) - '0';
            if (arity > 3 || family && arity < 1) {
                throw p.fault(5);
            }
            p.next();
            boolean back = family && p.is("back");
            if (back) {
                p.next();
            }
            p.need(";");
            names.put(name, new Told(name, family, (int) have, arity, closed, back));
        } else if (p.is("eq")) {
            if (found.size() == 16) {
                throw p.fault(6);
            }
            p.next();
            p.vars = new ArrayList<>();
            T l = p.side('l');
            p.need("=");
            T r = p.side('r');
            p.need(";");
            found.add(new Eq(l.name, l, r));
        } else {
            throw p.fault(2);
        }
    }

    // ---------------------------------------------------------------- joining

    private static T renamed(T t, String tail) {
        if (t.kind == 0) {
            return new T(0, t.name + tail, List.of());
        }
        List<T> args = new ArrayList<>();
        for (T a : t.args) {
            args.add(renamed(a, tail));
        }
        return new T(t.kind, t.name, args);
    }

    private static boolean isVar(T t) {
        return t.kind == 0 || t.kind == 3;
    }

    private static T walk(T t, Map<T, T> s) {
        while (isVar(t) && s.containsKey(t)) {
            t = s.get(t);
        }
        return t;
    }

    /** False if APART; pairs that have been looked at once are not looked at again. */
    private static boolean join(T a, T b, Map<T, T> s, Set<List<T>> seen) {
        a = walk(a, s);
        b = walk(b, s);
        if (a.equals(b) || !seen.add(List.of(a, b))) {
            return true;
        }
        if (isVar(a)) {
            s.put(a, b);
            return true;
        }
        if (isVar(b)) {
            s.put(b, a);
            return true;
        }
        if (a.kind != b.kind || !a.name.equals(b.name)) {
            return false;
        }
        for (int i = 0; i < a.args.size(); i++) {
            if (!join(a.args.get(i), b.args.get(i), s, seen)) {
                return false;
            }
        }
        return true;
    }

    private static boolean circles(T t, Map<T, T> s, Set<T> path, Set<T> fine) {
        if (isVar(t)) {
            if (fine.contains(t) || !s.containsKey(t)) {
                return false;
            }
            if (!path.add(t)) {
                return true;
            }
            boolean c = circles(s.get(t), s, path, fine);
            path.remove(t);
            fine.add(t);
            return c;
        }
        for (T a : t.args) {
            if (circles(a, s, path, fine)) {
                return true;
            }
        }
        return false;
    }

    private static T apply(T t, Map<T, T> s) {
        if (isVar(t)) {
            return s.containsKey(t) ? apply(s.get(t), s) : t;
        }
        List<T> args = new ArrayList<>();
        for (T a : t.args) {
            args.add(apply(a, s));
        }
        return new T(t.kind, t.name, args);
    }

    private static int joined(T a, T b, Map<T, T> s) {
        if (!join(a, b, s, new HashSet<>())) {
            return 0;
        }
        for (T v : new ArrayList<>(s.keySet())) {
            if (circles(v, s, new HashSet<>(), new HashSet<>())) {
                return 2;
            }
        }
        return 1;
    }

    private static T flat(T t) {
        if (t.kind == 2) {
            return new T(0, "%" + t, List.of());
        }
        List<T> args = new ArrayList<>();
        for (T a : t.args) {
            args.add(flat(a));
        }
        return new T(t.kind, t.name, args);
    }

    private static T flatArguments(T t) {
        List<T> args = new ArrayList<>();
        for (T a : t.args) {
            args.add(flat(a));
        }
        return new T(t.kind, t.name, args);
    }

    private boolean isEq(int e) {
        return e >= 0 && e < eqs.size();
    }

    private boolean oneFamily(int e, int o) {
        return eqs.get(e).family.equals(eqs.get(o).family);
    }

    private int meet(int e, int o, Map<T, T> s) {
        return joined(renamed(eqs.get(e).left, "/1"), renamed(eqs.get(o).left, "/2"), s);
    }

    private boolean agree(int e, int o) {
        Map<T, T> s = new HashMap<>();
        int m = meet(e, o, s);
        return m == 0 || m == 1
            && apply(renamed(eqs.get(e).right, "/1"), s).equals(apply(renamed(eqs.get(o).right, "/2"), s));
    }

    private String family(int f) {
        for (Told t : told.values()) {
            if (t.family && t.number == f) {
                return t.name;
            }
        }
        return null;
    }

    private List<Integer> of(String name) {
        List<Integer> l = new ArrayList<>();
        for (int e = 0; e < eqs.size(); e++) {
            if (eqs.get(e).family.equals(name)) {
                l.add(e);
            }
        }
        return l;
    }

    private int[] parting(String name) {
        for (int e : of(name)) {
            for (int o : of(name)) {
                if (o > e && !agree(e, o)) {
                    return new int[] {e, o};
                }
            }
        }
        return null;
    }

    private int[] badness(String name) {
        for (int e : of(name)) {
            Eq q = eqs.get(e);
            boolean exempt = of(name).size() == 1 && q.left.args.size() == 1 && q.left.args.get(0).kind == 0;
            if (q.right.kind == 0 && !exempt) {
                return new int[] {1, e, NONE};
            }
            if (q.right.kind == 2) {
                return new int[] {2, e, NONE};
            }
            for (T v : q.left.all()) {
                if (v.kind == 0 && !q.right.hasOutside(v)) {
                    return new int[] {3, e, NONE};
                }
            }
        }
        for (int e : of(name)) {
            for (int o : of(name)) {
                if (o <= e) {
                    continue;
                }
                Map<T, T> s = new HashMap<>();
                // FLAT of each by itself: the names are made unlike behind it.
                int m = joined(renamed(flat(eqs.get(e).right), "/1"), renamed(flat(eqs.get(o).right), "/2"), s);
                if (m == 1 && !apply(renamed(eqs.get(e).left, "/1"), s).equals(apply(renamed(eqs.get(o).left, "/2"), s))) {
                    return new int[] {4, e, o};
                }
            }
        }
        return null;
    }

    private boolean backwards(String name) {
        return told.get(name).back && badness(name) == null;
    }

    private int calls(String name) {
        int bits = 0;
        for (int e : of(name)) {
            for (T t : eqs.get(e).right.all()) {
                if (t.kind == 2) {
                    bits |= 1 << told.get(t.name).number;
                }
            }
        }
        return bits;
    }

    int many(int what) {
        if (what < 0 || what > 2) {
            return refuse(1);
        }
        return give(what == 2 ? eqs.size() : (int) told.values().stream().filter(t -> t.family == (what == 1)).count());
    }

    int family(int f, int what) {
        if (what < 0 || what > 7) {
            return refuse(1);
        }
        String name = family(f);
        if (name == null) {
            return refuse(2);
        }
        Told t = told.get(name);
        switch (what) {
            case 0: return give(t.arity);
            case 1: return give(t.closed ? 1 : 0);
            case 2: return give(t.back ? 1 : 0);
            case 3: return give(of(name).size());
            case 4: return give(calls(name));
            case 5: {
                Set<Integer> reached = new LinkedHashSet<>();
                reach(name, reached);
                int bits = 0;
                for (int r : reached) {
                    bits |= 1 << r;
                }
                return give(bits);
            }
            case 6: return give(parting(name) == null ? 1 : 0);
            default: return give(backwards(name) ? 1 : 0);
        }
    }

    private void reach(String name, Set<Integer> reached) {
        int bits = calls(name);
        for (int f = 0; f < 5; f++) {
            if ((bits >> f & 1) == 1 && reached.add(f)) {
                reach(family(f), reached);
            }
        }
    }

    int equation(int e, int what) {
        if (what < 0 || what > 5) {
            return refuse(1);
        }
        if (!isEq(e)) {
            return refuse(2);
        }
        Eq q = eqs.get(e);
        switch (what) {
            case 0: return give(told.get(q.family).number);
            case 1: return give(of(q.family).indexOf(e));
            case 2: return give((int) q.left.all().stream().filter(t -> t.kind == 0).distinct().count());
            case 3: return give(q.left.nodes());
            case 4: return give(q.right.nodes());
            default: return give(unbounded(q));
        }
    }

    private static int unbounded(Eq q) {
        List<T> fams = new ArrayList<>();
        for (T t : q.right.all()) {
            if (t.kind == 2) {
                fams.add(t);
            }
        }
        for (T f : fams) {
            if (f.all().stream().filter(t -> t.kind == 2).count() > 1) {
                return 1;
            }
        }
        for (T f : fams) {
            if (f.nodes() >= q.left.nodes()) {
                return 2;
            }
        }
        for (T f : fams) {
            for (T v : f.all()) {
                long here = f.all().stream().filter(v::equals).count();
                long there = q.left.all().stream().filter(v::equals).count();
                if (v.kind == 0 && here > there) {
                    return 3;
                }
            }
        }
        return 0;
    }

    int meets(int e, int o) {
        if (!isEq(e) || !isEq(o)) {
            return refuse(2);
        }
        return give(oneFamily(e, o) ? meet(e, o, new HashMap<>()) : 0);
    }

    int compatible(int e, int o) {
        if (!isEq(e) || !isEq(o)) {
            return refuse(2);
        }
        return oneFamily(e, o) ? give(agree(e, o) ? 1 : 0) : refuse(5);
    }

    int ends(int e, int o, int what) {
        if (what < 0 || what > 1) {
            return refuse(1);
        }
        if (!isEq(e) || !isEq(o)) {
            return refuse(2);
        }
        Map<T, T> s = new HashMap<>();
        if (!oneFamily(e, o) || meet(e, o, s) != 1) {
            return refuse(5);
        }
        Map<T, T> names = new LinkedHashMap<>();
        for (T t : apply(renamed(eqs.get(e).left, "/1"), s).all()) {
            if (t.kind == 0 && !names.containsKey(t)) {
                names.put(t, new T(0, "" + (char) ('a' + names.size()), List.of()));
            }
        }
        T end = apply(what == 0 ? renamed(eqs.get(e).right, "/1") : renamed(eqs.get(o).right, "/2"), s);
        out = apply(end, names).toString();
        return give(out.length());
    }

    int parts(int f, int what) {
        if (what < 0 || what > 1) {
            return refuse(1);
        }
        if (family(f) == null) {
            return refuse(2);
        }
        int[] p = parting(family(f));
        return p == null ? refuse(5) : give(p[what]);
    }

    int bad(int f, int what) {
        if (what < 0 || what > 2) {
            return refuse(1);
        }
        if (family(f) == null) {
            return refuse(2);
        }
        int[] b = badness(family(f));
        return b == null ? refuse(5) : give(b[what]);
    }

    // ---------------------------------------------------------------- the term

    int term(int n) {
        if (n < 0 || n > tape.length()) {
            return refuse(1);
        }
        Parser p = new Parser(takeText(n), told);
        try {
            T t = p.side('t');
            if (!p.is("")) {
                throw p.fault(2);
            }
            theTerm = t;
        } catch (Fault f) {
            return faulty(f);
        }
        termVars = p.vars;
        noFault();
        return give(theTerm.nodes());
    }

    private static boolean fit(T left, T t, Map<T, T> s) {
        if (left.kind == 0) {
            T old = s.putIfAbsent(left, t);
            return old == null || old.equals(t);
        }
        if (left.kind != t.kind || !left.name.equals(t.name)) {
            return false;
        }
        for (int i = 0; i < left.args.size(); i++) {
            if (!fit(left.args.get(i), t.args.get(i), s)) {
                return false;
            }
        }
        return true;
    }

    private int stillAt(int e, T t) {
        String name = eqs.get(e).family;
        if (told.get(name).closed) {
            for (int i : of(name)) {
                if (i < e && !agree(i, e)
                    && join(renamed(eqs.get(i).left, "/1"), flatArguments(t), new HashMap<>(), new HashSet<>())) {
                    return i;
                }
            }
        }
        return NONE;
    }

    private int whyNot(T t, int e) {
        Eq q = eqs.get(e);
        if (t.kind != 2 || !t.name.equals(q.family)) {
            return 1;
        }
        if (!fit(q.left, t, new HashMap<>())) {
            return 2;
        }
        return stillAt(e, t) == NONE ? 0 : 3;
    }

    private int fires(T t) {
        for (int e = 0; e < eqs.size(); e++) {
            if (whyNot(t, e) == 0) {
                return e;
            }
        }
        return NONE;
    }

    private static T put(T t, Map<T, T> s) {
        if (t.kind == 0) {
            return s.get(t);
        }
        List<T> args = new ArrayList<>();
        for (T a : t.args) {
            args.add(put(a, s));
        }
        return new T(t.kind, t.name, args);
    }

    /** What one STEP makes of a TERM, null if there is none; the EQUATION in fired. */
    private int fired;

    private T stepped(T t, int way, Map<T, T> givens) {
        if (way == 1) {
            T here = steppedHere(t, givens);
            if (here != null) {
                return here;
            }
        }
        for (int i = 0; i < t.args.size(); i++) {
            T a = stepped(t.args.get(i), way, givens);
            if (a != null) {
                List<T> args = new ArrayList<>(t.args);
                args.set(i, a);
                return new T(t.kind, t.name, args);
            }
        }
        return way == 0 ? steppedHere(t, givens) : null;
    }

    private T steppedHere(T t, Map<T, T> givens) {
        if (givens.containsKey(t)) {
            fired = NONE;
            return givens.get(t);
        }
        int e = fires(t);
        if (e == NONE) {
            return null;
        }
        Map<T, T> s = new HashMap<>();
        fit(eqs.get(e).left, t, s);
        fired = e;
        return put(eqs.get(e).right, s);
    }

    /** status, steps, period */
    private int[] how = new int[3];

    private T reduced(T t, int way, Map<T, T> givens) {
        List<T> past = new ArrayList<>();
        past.add(t);
        how = new int[] {0, 0, 0};
        while (true) {
            T n = stepped(t, way, givens);
            if (n == null) {
                return t;
            }
            if (how[1] == 60) {
                how[0] = 8;
                return t;
            }
            if (n.nodes() > 60) {
                how[0] = 6;
                return t;
            }
            how[1]++;
            t = n;
            if (past.contains(t)) {
                how[0] = 7;
                how[2] = how[1] - past.indexOf(t);
                return t;
            }
            past.add(t);
        }
    }

    int now(int what) {
        if (what < 0 || what > 3) {
            return refuse(1);
        }
        if (theTerm == null) {
            return refuse(3);
        }
        switch (what) {
            case 0: return give(theTerm.nodes());
            case 1: return give(theTerm.deep());
            case 2: return give((int) theTerm.all().stream().filter(t -> t.kind == 2).count());
            default: return give((int) theTerm.all().stream().filter(t -> fires(t) != NONE).count());
        }
    }

    private void depths(T t, int d, List<Integer> into) {
        into.add(d);
        for (T a : t.args) {
            depths(a, d + 1, into);
        }
    }

    int node(int k, int what) {
        if (what < 0 || what > 4) {
            return refuse(1);
        }
        if (theTerm == null) {
            return refuse(3);
        }
        if (k < 0 || k >= theTerm.nodes()) {
            return refuse(2);
        }
        T t = theTerm.all().get(k);
        switch (what) {
            case 0: return give(t.kind);
            case 1: return give(t.kind == 0 ? termVars.indexOf(t.name) : told.get(t.name).number);
            case 2: return give(t.nodes());
            case 3: return give(fires(t));
            default: {
                List<Integer> d = new ArrayList<>();
                depths(theTerm, 0, d);
                return give(d.get(k));
            }
        }
    }

    int why(int k, int e) {
        if (theTerm == null) {
            return refuse(3);
        }
        if (k < 0 || k >= theTerm.nodes() || !isEq(e)) {
            return refuse(2);
        }
        return give(whyNot(theTerm.all().get(k), e));
    }

    int still(int k, int e) {
        if (theTerm == null) {
            return refuse(3);
        }
        if (k < 0 || k >= theTerm.nodes() || !isEq(e)) {
            return refuse(2);
        }
        T t = theTerm.all().get(k);
        return whyNot(t, e) == 3 ? give(stillAt(e, t)) : refuse(5);
    }

    int step(int way) {
        if (way < 0 || way > 1) {
            return refuse(1);
        }
        if (theTerm == null) {
            return refuse(3);
        }
        T n = stepped(theTerm, way, Map.of());
        if (n == null) {
            return refuse(5);
        }
        if (n.nodes() > 60) {
            return refuse(6);
        }
        theTerm = n;
        return give(fired);
    }

    int reduce(int way) {
        if (way < 0 || way > 1) {
            return refuse(1);
        }
        if (theTerm == null) {
            return refuse(3);
        }
        theTerm = reduced(theTerm, way, Map.of());
        if (how[0] == 7) {
            period = how[2];
        }
        return how[0] == 0 ? give(how[1]) : refuse(how[0]);
    }

    int would(int way, int what) {
        if (way < 0 || way > 1 || what < 0 || what > 1) {
            return refuse(1);
        }
        if (theTerm == null) {
            return refuse(3);
        }
        if (what == 0) {
            reduced(theTerm, way, Map.of());
            return how[0] == 0 ? give(how[1]) : refuse(how[0]);
        }
        T a = reduced(theTerm, 0, Map.of());
        boolean ends = how[0] == 0;
        T b = reduced(theTerm, 1, Map.of());
        ends &= how[0] == 0;
        return give(!ends ? 0 : a.equals(b) ? 1 : 2);
    }

    int period() {
        return period == NONE ? refuse(5) : give(period);
    }

    int print() {
        if (theTerm == null) {
            return refuse(3);
        }
        out = theTerm.toString();
        return give(out.length());
    }

    int out(int i) {
        if (i < 0) {
            return refuse(1);
        }
        return out == null || i >= out.length() ? refuse(5) : give(out.charAt(i));
    }

    // ---------------------------------------------------------------- wanted

    int want(int n) {
        if (n < 0 || n > tape.length()) {
            return refuse(1);
        }
        Parser p = new Parser(takeText(n), told);
        Map<T, T> givens = new HashMap<>();
        int givenCount = 0;
        List<Equality> wants = new ArrayList<>();
        try {
            while (!p.is("")) {
                boolean given = p.is("given");
                if (!given && !p.is("want")) {
                    throw p.fault(2);
                }
                if (given ? givenCount == 6 : wants.size() == 8) {
                    throw p.fault(6);
                }
                p.next();
                T l = p.side(given ? 'g' : 'w');
                p.need("=");
                T r = p.side(given ? 'h' : 'x');
                p.need(";");
                if (given) {
                    givenCount++;
                    givens.putIfAbsent(l, r);
                } else {
                    wants.add(new Equality(l, r, wants.size()));
                }
            }
        } catch (Fault f) {
            return faulty(f);
        }
        noFault();
        asked = true;
        list = wants;
        unknowns = p.asks;
        values = new HashMap<>();
        wrong = 0;
        wrongOrigin = NONE;
        rounds = 0;
        boolean more = true;
        while (more && wrong == 0 && rounds < 20) {
            rounds++;
            more = round(givens);
        }
        return give(list.size());
    }

    private boolean round(Map<T, T> givens) {
        boolean more = false;
        for (Equality q : new ArrayList<>(list)) {
            int place = indexOf(q);
            T a = settled(q.left, givens);
            T b = a == null ? null : settled(q.right, givens);
            if (a == null || b == null) {
                return wrong(3, q);
            }
            if (a.equals(b)) {
                list.remove(place);
                more = true;
                continue;
            }
            if (a.kind == 3 || b.kind == 3) {
                T u = a.kind == 3 ? a : b;
                T v = a.kind == 3 ? b : a;
                if (!v.has(u)) {
                    values.put(u.name, v);
                    list.remove(place);
                    more = true;
                } else if (v.hasOutside(u)) {
                    return wrong(2, q);
                } else {
                    list.set(place, new Equality(a, b, q.origin));
                }
                continue;
            }
            if (a.kind == 1 && b.kind == 1 && !a.name.equals(b.name)) {
                return wrong(1, q);
            }
            if (a.kind == b.kind && a.kind != 0 && a.name.equals(b.name) && (a.kind == 1 || backwards(a.name))) {
                for (int i = 0; i < a.args.size(); i++) {
                    if (list.size() + 1 > 100) {
                        return wrong(3, q);
                    }
                    list.add(new Equality(a.args.get(i), b.args.get(i), q.origin));
                }
                list.remove(place);
                more = true;
                continue;
            }
            if (a.kind != 2 && b.kind != 2) {
                return wrong(1, q);
            }
            list.set(place, new Equality(a, b, q.origin));
        }
        return more;
    }

    private int indexOf(Equality q) {
        for (int i = 0; i < list.size(); i++) {
            if (list.get(i) == q) {
                return i;
            }
        }
        throw new IllegalStateException();
    }

    private boolean wrong(int kind, Equality q) {
        wrong = kind;
        wrongOrigin = q.origin;
        return false;
    }

    /** With what UNKNOWNS are, null if that has more than 60 NODES. */
    private T filled(T t) {
        if (count(t) > 60) {
            return null;
        }
        return fill(t);
    }

    private long count(T t) {
        if (t.kind == 3 && values.containsKey(t.name)) {
            return count(values.get(t.name));
        }
        long n = 1;
        for (T a : t.args) {
            n += count(a);
        }
        return n;
    }

    private T fill(T t) {
        if (t.kind == 3) {
            return values.containsKey(t.name) ? fill(values.get(t.name)) : t;
        }
        List<T> args = new ArrayList<>();
        for (T a : t.args) {
            args.add(fill(a));
        }
        return new T(t.kind, t.name, args);
    }

    private T settled(T t, Map<T, T> givens) {
        T f = filled(t);
        if (f == null) {
            return null;
        }
        T r = reduced(f, 0, givens);
        return how[0] == 0 ? r : null;
    }

    int wanted(int what) {
        if (what < 0 || what > 5) {
            return refuse(1);
        }
        if (!asked) {
            return refuse(5);
        }
        switch (what) {
            case 0: return give(list.size());
            case 1: return give(wrong);
            case 2: return give(wrongOrigin);
            case 3: return give(rounds);
            case 4: return give(unknowns.size());
            default: {
                int bits = 0;
                for (String u : values.keySet()) {
                    bits |= 1 << unknowns.indexOf(u);
                }
                return give(bits);
            }
        }
    }

    int unknown(int k) {
        if (k < 0 || k >= unknowns.size()) {
            return refuse(2);
        }
        if (!values.containsKey(unknowns.get(k))) {
            return refuse(5);
        }
        T t = filled(values.get(unknowns.get(k)));
        if (t == null) {
            return refuse(6);
        }
        out = t.toString();
        return give(out.length());
    }

    // What a test may look at without a call that has a STATUS.

    int outLength() {
        return out == null ? 0 : out.length();
    }

    int tapeLength() {
        return tape.length();
    }

    int eqCount() {
        return eqs.size();
    }

    int nodeCount() {
        return theTerm == null ? 0 : theTerm.nodes();
    }

    int wrongKind() {
        return asked ? wrong : 0;
    }
}
