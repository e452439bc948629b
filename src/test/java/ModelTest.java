import java.util.ArrayList;
import java.util.List;
import java.util.Random;

/** Random runs of calls on FamilyReducer and on Model, which must answer alike. */
public final class ModelTest {
    private static final String[] CON_NAMES = {"A", "B", "Cc", "Deltax", "E", "Fo", "Gg", "Hh", "I"};
    private static final String[] FAM_NAMES = {"P", "Q", "Reduce", "S", "Tt", "U"};
    private static final String[] VARS = {"a", "b", "c", "x", "yy", "abcdef", "z", "w"};
    private static final String[] SCRAPS = {
        ";", "(", ")", ",", "=", "?", "con", "open", "closed", "back", "eq", "given", "want", "x", "A", "P",
        "Zz", "0", "1", "3", "4", "12", "AB", "abcdefg", "Abcdefg", "#", "aB", "?x", "P(x)", "A(x)", ",x", "\n", "q",
        "given P(x)=x;", "want x=x;", "con Z 0;", "open Zz 1;", "\u00e9", "con A 0;", "open P 2;", "con P 0;",
        "eq A=A;", "eq x=A;", "eq P(P(x))=x;", "eq P(x,P(x,x))=x;", "given A=A;", "given P(?x)=A;", "want ?a"};

    private final Random random;
    private final FamilyReducer x = new FamilyReducer();
    private final Model m = new Model();
    private final StringBuilder log = new StringBuilder();
    private final List<String> cons = new ArrayList<>();
    private final List<Integer> conArity = new ArrayList<>();
    private final List<String> fams = new ArrayList<>();
    private final List<Integer> famArity = new ArrayList<>();
    private static final int[] seen = new int[10];
    private static final int[] faults = new int[8];
    private static final int[] wrongs = new int[4];

    private ModelTest(long seed) {
        random = new Random(seed);
    }

    private static final class Unlike extends RuntimeException {
        Unlike(String text) {
            super(text);
        }
    }

    private void same(String call, int got, int due) {
        if (got != due || x.status() != m.status()) {
            throw new Unlike(log + "\n" + call + " answered " + got + " with " + x.status()
                + ", due is " + due + " with " + m.status());
        }
        seen[m.status()]++;
    }

    private boolean chance(int percent) {
        return random.nextInt(100) < percent;
    }

    private String var(List<String> vars) {
        return vars.get(random.nextInt(vars.size()));
    }

    /** A TERM of about so many NODES. */
    private String term(int room, List<String> vars, int families, int unknowns) {
        if (chance(unknowns)) {
            return "?" + VARS[random.nextInt(random.nextInt(8) == 0 ? 8 : 3)];
        }
        boolean leaf = room <= 1;
        if (!vars.isEmpty() && chance(leaf ? 60 : 15)) {
            return var(vars);
        }
        boolean family = !fams.isEmpty() && chance(families);
        List<String> names = family ? fams : cons;
        List<Integer> arities = family ? famArity : conArity;
        if (names.isEmpty()) {
            return vars.isEmpty() ? "x" : var(vars);
        }
        int k = random.nextInt(names.size());
        for (int tries = 0; tries < 10 && (leaf ? arities.get(k) > 0 : arities.get(k) == 0); tries++) {
            k = random.nextInt(names.size());
        }
        return applied(names.get(k), arities.get(k), room - 1, vars, families, unknowns);
    }

    private String applied(String name, int arity, int room, List<String> vars, int families, int unknowns) {
        StringBuilder b = new StringBuilder(name);
        for (int i = 0; i < arity; i++) {
            b.append(i == 0 ? "(" : ",");
            b.append(term(room <= 0 ? 0 : room / arity, vars, room <= 0 ? 0 : families, unknowns));
        }
        return arity == 0 ? b.toString() : b.append(")").toString();
    }

    private static List<String> varsIn(String text) {
        List<String> found = new ArrayList<>();
        for (String s : text.split("[^A-Za-z]+")) {
            if (!s.isEmpty() && Character.isLowerCase(s.charAt(0))) {
                found.add(s);
            }
        }
        return found;
    }

    private String program() {
        StringBuilder b = new StringBuilder();
        cons.clear();
        conArity.clear();
        fams.clear();
        famArity.clear();
        int conCount = chance(5) ? random.nextInt(10) : 1 + random.nextInt(4);
        for (int i = 0; i < conCount; i++) {
            cons.add(CON_NAMES[i % CON_NAMES.length]);
            conArity.add(i == 0 ? 0 : random.nextInt(4));
            b.append("con ").append(cons.get(i)).append(" ").append(conArity.get(i)).append(";");
        }
        int famCount = chance(5) ? random.nextInt(7) : 1 + random.nextInt(3);
        for (int i = 0; i < famCount; i++) {
            fams.add(FAM_NAMES[i % FAM_NAMES.length]);
            famArity.add(1 + random.nextInt(3));
            b.append(chance(60) ? "closed " : "open ").append(fams.get(i)).append(" ").append(famArity.get(i));
            b.append(chance(60) ? " back;" : ";");
        }
        int eqCount = fams.isEmpty() ? 0 : chance(5) ? 17 : 1 + random.nextInt(6);
        for (int i = 0; i < eqCount; i++) {
            b.append(equation());
        }
        return b.toString();
    }

    private String equation() {
        int f = random.nextInt(fams.size());
        List<String> some = new ArrayList<>();
        int n = 1 + random.nextInt(3) + (chance(10) ? 4 : 0);
        for (int i = 0; i < n; i++) {
            some.add(VARS[i]);
        }
        int room = 1 + random.nextInt(chance(15) ? 14 : 6);
        String left = applied(fams.get(f), famArity.get(f), room, some, 0, 0);
        List<String> vars = varsIn(left);
        // Turned around, ARGUMENTS often come back or go on for long.
        boolean around = chance(15) && famArity.get(f) > 1;
        String right = around ? applied(fams.get(f), famArity.get(f), random.nextInt(6), vars, 5, 0)
            : term(1 + random.nextInt(chance(15) ? 14 : 5), vars, 30, 0);
        return "eq " + left + "=" + right + ";";
    }

    private String broken(String text, int percent) {
        String t = text;
        while (chance(percent)) {
            int at = random.nextInt(t.length() + 1);
            if (chance(40)) {
                at = t.lastIndexOf(';', at) + 1;
            }
            int end = Math.min(t.length(), at + random.nextInt(3));
            switch (random.nextInt(4)) {
                case 0: t = t.substring(0, at); break;
                case 1: t = t.substring(0, at) + t.substring(end); break;
                case 2: t = t.substring(0, at) + SCRAPS[random.nextInt(SCRAPS.length)] + t.substring(at); break;
                default: t = t.substring(0, at) + SCRAPS[random.nextInt(SCRAPS.length)] + t.substring(end); break;
            }
        }
        return t;
    }

    /** Puts a text on both tapes; how many bytes of it are there. */
    private int tape(String text) {
        String t = chance(10) ? text.replace(",", " , ").replace("(", "\n( ") : text;
        log.append("\n  ").append(t);
        int n = Math.min(t.length(), 900);
        if (m.tapeLength() > 0 && chance(95)) {
            same("term(0)", x.term(0), m.term(0));
        }
        for (int i = 0; i < n; i += 20) {
            int[] w = new int[5];
            for (int k = 0; k < 20; k++) {
                w[k / 4] = w[k / 4] << 8 | (i + k < n ? t.charAt(i + k) & 255 : ' ');
            }
            same("feed", x.feed(w[0], w[1], w[2], w[3], w[4]), m.feed(w[0], w[1], w[2], w[3], w[4]));
        }
        return n;
    }

    private void sameFault() {
        for (int i = -1; i < 3; i++) {
            same("fault(" + i + ")", x.fault(i), m.fault(i));
        }
        if (m.fault(0) >= 0) {
            faults[m.fault(0)]++;
        }
    }

    private void sameOut() {
        int n = m.outLength();
        for (int i = -1; i <= n; i++) {
            if (i < 1000 || i % 97 == 0 || i == n) {
                same("out(" + i + ")", x.out(i), m.out(i));
            }
        }
    }

    /** Runs that chance seldom makes: a program, then TERMS and WANTED. */
    private static final String[][] RARE = {
        // The list grows beyond 100.
        {"con A 0;con B 0;con T 3;open F 1;open G 1;open M 1;"
            + "eq G(x)=T(F(x),F(x),F(x));eq M(x)=T(T(G(x),G(x),G(x)),G(x),F(x));",
            "want M(A)=M(B);want M(A)=M(B);want M(A)=M(B);want M(A)=M(B);want M(A)=M(B);want M(A)=M(B);"
                + "want M(A)=M(B);want M(A)=M(B);",
            "want M(A)=M(B);want M(A)=M(B);want M(A)=M(B);want M(A)=M(B);want M(A)=M(B);want M(A)=M(B);"
                + "want M(A)=M(B);want G(A)=G(B);",
            "want M(A)=M(B);want M(A)=M(B);want M(A)=M(B);want M(A)=M(B);want ?a=F(?a);want M(A)=M(B);"
                + "want M(A)=M(B);want T(M(A),F(A),F(A))=T(M(B),F(B),F(B));",
            "want M(A)=M(B);want M(A)=M(B);want M(A)=M(B);want M(A)=M(B);want M(A)=M(B);want M(A)=M(B);"
                + "want M(A)=M(B);want T(F(A),G(A),F(A))=T(F(B),G(B),?a);",
            "want ?a=M(?b);want T(?a,?b,?c)=T(M(A),?c,?d);want T(?a,?a,?b)=?d;want T(?a,?d,?d)=?e;"},
        // UNKNOWNS that are more than 60 NODES when all is put together.
        {"con A 0;con T 3;open F 1;",
            "want ?a=T(?b,?b,?b);want ?b=T(?c,?c,?c);want ?c=T(?d,?d,?d);want ?d=T(?e,?e,?e);",
            "want ?a=T(?b,?b,?b);want ?b=T(?c,?c,?c);want ?c=T(?d,?d,?d);want ?d=T(?e,?e,?e);want F(?a)=A;",
            "want ?a=T(?b,?b,?b);want ?b=T(?c,?c,?c);want ?c=T(?d,?d,?d);want F(?e)=?a;want ?d=?e;"},
        // More than 60 STEPS, just 60 STEPS.
        {"con A 0;con S 1;open R 2;eq R(S(x),y)=R(x,S(y));eq R(A,S(y))=R(y,A);",
            "R(S(S(S(S(S(S(S(S(S(S(S(S(A)))))))))))),A)", "R(S(S(S(S(S(S(S(S(A)))))))),S(S(S(S(A)))))",
            "want R(S(S(S(S(S(S(S(S(S(S(S(S(A)))))))))))),A)=A;", "R(S(S(S(S(A)))),x)"},
        // Rounds: each UNKNOWN is found one ROUND later.
        {"con A 0;con S 1;open F 1 back;eq F(S(x))=S(F(x));eq F(A)=A;",
            "want S(S(S(S(S(S(?a))))))=S(S(S(S(S(S(A))))));want F(?a)=A;",
            "want F(?a)=F(?b);want ?b=S(?c);want F(?c)=F(A);",
            "given F(x)=S(A);want F(x)=F(S(A));want F(?q)=F(x);"},
        // Long ENDS by VARIABLES that stand three times.
        {"con Dddddd 3;con Leaffi 0;con P 3;open F 3;"
            + "eq F(a,Dddddd(b,b,b),P(b,Dddddd(c,c,c),c))=P(P(a,a,a),P(a,a,a),P(a,a,P(a,a,a)));"
            + "eq F(Dddddd(p,p,p),p,P(Dddddd(q,q,q),q,Dddddd(z,z,z)))=P(p,q,P(p,p,p));",
            "F(x,y,z)"},
    };

    private void rare(String[] texts) {
        judge(texts[0]);
        for (int i = 1; i < texts.length; i++) {
            if (texts[i].contains("=")) {
                want(texts[i]);
            } else {
                term(texts[i]);
            }
        }
    }

    private void load() {
        judge(broken(program(), chance(30) ? 70 : 0));
    }

    private void judge(String text) {
        int n = tape(text);
        if (chance(3)) {
            same("load(-1)", x.load(-1), m.load(-1));
            same("load(901)", x.load(901), m.load(901));
        }
        same("load(" + n + ")", x.load(n), m.load(n));
        sameFault();
        for (int i = -1; i < 4; i++) {
            same("many", x.many(i), m.many(i));
        }
        for (int f = -1; f < 6; f++) {
            for (int what = -1; what < 9; what++) {
                same("family(" + f + ", " + what + ")", x.family(f, what), m.family(f, what));
            }
            for (int what = -1; what < 4; what++) {
                same("parts(" + f + ", " + what + ")", x.parts(f, what), m.parts(f, what));
                same("bad(" + f + ", " + what + ")", x.bad(f, what), m.bad(f, what));
            }
        }
        for (int e = -1; e <= m.eqCount(); e++) {
            equationCalls(e);
        }
    }

    private void equationCalls(int e) {
        for (int what = -1; what < 7; what++) {
            same("equation(" + e + ", " + what + ")", x.equation(e, what), m.equation(e, what));
        }
        for (int o = -1; o <= m.eqCount(); o++) {
            same("meets(" + e + ", " + o + ")", x.meets(e, o), m.meets(e, o));
            same("compatible(" + e + ", " + o + ")", x.compatible(e, o), m.compatible(e, o));
            for (int what = -1; what < 3; what++) {
                same("ends(" + e + ", " + o + ", " + what + ")", x.ends(e, o, what), m.ends(e, o, what));
                sameOut();
            }
        }
    }

    private void term() {
        List<String> vars = new ArrayList<>(List.of("a", "b", "x"));
        if (chance(10)) {
            vars.addAll(List.of("d", "e", "f", "g", "h", "i", "j", "k", "l", "m"));
        }
        int room = 1 + random.nextInt(chance(20) ? 80 : 14);
        term(broken(term(room, vars, 45, 0), chance(20) ? 60 : 0));
    }

    private void term(String text) {
        int n = tape(text);
        same("term(" + n + ")", x.term(n), m.term(n));
        sameFault();
        termCalls();
        int doings = 1 + random.nextInt(4);
        for (int i = 0; i < doings; i++) {
            int way = random.nextInt(2);
            for (int w = -1; w < 3; w++) {
                for (int what = -1; what < 3; what++) {
                    same("would(" + w + ", " + what + ")", x.would(w, what), m.would(w, what));
                }
            }
            if (chance(70)) {
                same("step(" + way + ")", x.step(way), m.step(way));
            } else {
                same("reduce(" + way + ")", x.reduce(way), m.reduce(way));
            }
            same("period()", x.period(), m.period());
            termCalls();
        }
        same("step(2)", x.step(2), m.step(2));
        same("reduce(-1)", x.reduce(-1), m.reduce(-1));
    }

    private void termCalls() {
        for (int what = -1; what < 5; what++) {
            same("now(" + what + ")", x.now(what), m.now(what));
        }
        int n = m.nodeCount();
        for (int k = -1; k <= n; k++) {
            for (int what = -1; what < 6; what++) {
                same("node(" + k + ", " + what + ")", x.node(k, what), m.node(k, what));
            }
            int e = random.nextInt(8) - 1;
            same("why(" + k + ", " + e + ")", x.why(k, e), m.why(k, e));
            same("still(" + k + ", " + e + ")", x.still(k, e), m.still(k, e));
        }
        same("print()", x.print(), m.print());
        sameOut();
    }

    private void want() {
        StringBuilder b = new StringBuilder();
        List<String> vars = List.of("a", "b", "c");
        int givens = fams.isEmpty() ? 0 : chance(3) ? 7 : random.nextInt(3);
        for (int i = 0; i < givens; i++) {
            int f = random.nextInt(fams.size());
            b.append("given ").append(applied(fams.get(f), famArity.get(f), random.nextInt(4), vars, 20, 0));
            b.append("=").append(term(1 + random.nextInt(5), vars, 25, 0)).append(";");
        }
        int wants = chance(3) ? 9 : random.nextInt(5);
        for (int i = 0; i < wants; i++) {
            int room = 1 + random.nextInt(chance(10) ? 29 : 9);
            String left = term(room, vars, 20, 25);
            String right = chance(40) ? like(left) : term(room, vars, 20, 25);
            b.append("want ").append(left).append("=").append(right).append(";");
        }
        want(broken(b.toString(), chance(20) ? 60 : 0));
    }

    private void want(String text) {
        int n = tape(text);
        same("want(" + n + ")", x.want(n), m.want(n));
        sameFault();
        for (int what = -1; what < 7; what++) {
            same("wanted(" + what + ")", x.wanted(what), m.wanted(what));
        }
        wrongs[m.wrongKind()]++;
        for (int k = -1; k < 7; k++) {
            same("unknown(" + k + ")", x.unknown(k), m.unknown(k));
            sameOut();
        }
    }

    /** The same TERM with some VARIABLES and UNKNOWNS others. */
    private String like(String text) {
        StringBuilder b = new StringBuilder();
        for (String part : text.split("(?<=[(),])|(?=[(),])")) {
            if (part.matches("[?]?[a-z]+|[A-I]") && chance(60)) {
                b.append(term(random.nextInt(3), List.of("a", "b"), 20, 40));
            } else {
                b.append(part);
            }
        }
        return b.toString();
    }

    private static final int[] WILD = {Integer.MIN_VALUE, Integer.MIN_VALUE + 1, -900, -2, -1, 0, 1, 2, 3, 7, 15, 16,
        59, 60, 61, 899, 900, 901, Integer.MAX_VALUE - 1, Integer.MAX_VALUE};

    private int wild() {
        return chance(60) ? random.nextInt(6) : WILD[random.nextInt(WILD.length)];
    }

    /** Any call with any numbers, bytes of any kind on the tape. */
    private void wildCall() {
        int a = wild();
        int b = wild();
        int c = wild();
        log.append("\n  wild ").append(a).append(" ").append(b).append(" ").append(c);
        switch (random.nextInt(25)) {
            case 0: same("feed", x.feed(a, b, c, a, b), m.feed(a, b, c, a, b)); break;
            case 1: same("load", x.load(a), m.load(a)); break;
            case 2: same("fault", x.fault(a), m.fault(a)); break;
            case 3: same("many", x.many(a), m.many(a)); break;
            case 4: same("family", x.family(a, b), m.family(a, b)); break;
            case 5: same("equation", x.equation(a, b), m.equation(a, b)); break;
            case 6: same("meets", x.meets(a, b), m.meets(a, b)); break;
            case 7: same("compatible", x.compatible(a, b), m.compatible(a, b)); break;
            case 8: same("ends", x.ends(a, b, c), m.ends(a, b, c)); break;
            case 9: same("parts", x.parts(a, b), m.parts(a, b)); break;
            case 10: same("bad", x.bad(a, b), m.bad(a, b)); break;
            case 11: same("term", x.term(a), m.term(a)); break;
            case 12: same("now", x.now(a), m.now(a)); break;
            case 13: same("node", x.node(a, b), m.node(a, b)); break;
            case 14: same("why", x.why(a, b), m.why(a, b)); break;
            case 15: same("still", x.still(a, b), m.still(a, b)); break;
            case 16: same("step", x.step(a), m.step(a)); break;
            case 17: same("reduce", x.reduce(a), m.reduce(a)); break;
            case 18: same("would", x.would(a, b), m.would(a, b)); break;
            case 19: same("period", x.period(), m.period()); break;
            case 20: same("print", x.print(), m.print()); break;
            case 21: same("out", x.out(a), m.out(a)); break;
            case 22: same("want", x.want(a), m.want(a)); break;
            case 23: same("wanted", x.wanted(a), m.wanted(a)); break;
            default: same("unknown", x.unknown(a), m.unknown(a)); break;
        }
    }

    private void run() {
        int rounds = 1 + random.nextInt(3);
        for (int r = 0; r < rounds; r++) {
            if (chance(90)) {
                load();
            }
            int doings = 1 + random.nextInt(4);
            for (int i = 0; i < doings; i++) {
                if (chance(50)) {
                    term();
                } else {
                    want();
                }
                for (int k = random.nextInt(30); k > 0; k--) {
                    wildCall();
                }
            }
        }
    }

    public static void main(String[] args) {
        long first = args.length > 0 ? Long.parseLong(args[0]) : 1;
        long runs = args.length > 1 ? Long.parseLong(args[1]) : 1500;
        int unlike = 0;
        for (String[] texts : RARE) {
            try {
                new ModelTest(first).rare(texts);
            } catch (Unlike u) {
                unlike++;
                System.out.println("rare " + texts[0] + u.getMessage());
            }
        }
        for (long seed = first; seed < first + runs && unlike < 5; seed++) {
            try {
                new ModelTest(seed).run();
            } catch (Unlike u) {
                unlike++;
                System.out.println("seed " + seed + u.getMessage());
            }
        }
        System.out.print("statuses");
        for (int n : seen) {
            System.out.print(" " + n);
        }
        System.out.print("; faults");
        for (int n : faults) {
            System.out.print(" " + n);
        }
        System.out.print("; wrong");
        for (int n : wrongs) {
            System.out.print(" " + n);
        }
        System.out.println(unlike == 0 ? "; all alike" : "; unlike: " + unlike);
        if (unlike > 0) {
            System.exit(1);
        }
    }
}
