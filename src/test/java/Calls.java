import java.lang.reflect.InvocationTargetException;
import java.lang.reflect.Method;
import java.util.Arrays;
import java.util.Comparator;

/** Calls of one FamilyReducer, each held against the answer that is due. */
class Calls {
    static final int LEAST = Integer.MIN_VALUE;
    static final int MOST = Integer.MAX_VALUE;

    static int wrong = 0;
    static int promise = 0;
    private static String sentence = "";
    static FamilyReducer x = new FamilyReducer();

    static void is(String call, int got, int due) {
        if (got != due) {
            tell(call + " answered " + got + ", due is " + due);
        }
    }

    /** A call that gives NONE, and its STATUS. */
    static void no(String call, int got, int status) {
        is(call, got, FamilyReducer.NONE);
        is("status behind " + call, x.status(), status);
    }

    /** A call with STATUS 0. */
    static void ok(String call, int got, int due) {
        is(call, got, due);
        is("status behind " + call, x.status(), 0);
    }

    private static void tell(String what) {
        wrong++;
        System.out.println("promise " + promise + (sentence.isEmpty() ? "" : ", " + sentence) + ": " + what);
    }

    /** A new object for calls that belong to a promise. */
    static void begin(int number) {
        begin(number, "");
    }

    /** Likewise, for one sentence of the document. */
    static void begin(int number, String words) {
        promise = number;
        sentence = words;
        x = new FamilyReducer();
    }

    /** The end of a test's run: fails if one answer was not as due. */
    static void tellAll() {
        System.out.println(wrong == 0 ? "all answers are as due" : wrong + " answers are not as due");
        if (wrong != 0) {
            System.exit(1);
        }
    }

    /** Runs every method of a test that is named by a promise, so that none is forgotten. */
    static void runAll(Class<? extends Calls> test) {
        Method[] methods = test.getDeclaredMethods();
        Arrays.sort(methods, Comparator.comparing(Method::getName));
        int ran = 0;
        for (Method m : methods) {
            if (m.getName().startsWith("promise") && m.getParameterCount() == 0) {
                run(m);
                ran++;
            }
        }
        System.out.println(ran + " tests");
        tellAll();
    }

    private static void run(Method m) {
        try {
            m.setAccessible(true);
            m.invoke(null);
        } catch (InvocationTargetException e) {
            tell(m.getName() + " threw " + e.getCause());
        } catch (IllegalAccessException e) {
            tell(m.getName() + " can't be run");
        }
    }

    /** Numbers just outside of 0 to most, and far outside. */
    static int[] outside(int most) {
        return new int[] {LEAST, -1, most + 1, MOST};
    }

    static int feed(String text) {
        for (int i = 0; i < text.length(); i += 20) {
            int[] w = new int[5];
            for (int k = 0; k < 20; k++) {
                w[k / 4] = w[k / 4] << 8 | (i + k < text.length() ? text.charAt(i + k) & 255 : 32);
            }
            x.feed(w[0], w[1], w[2], w[3], w[4]);
        }
        return text.length();
    }

    static int load(String text) {
        return x.load(feed(text));
    }

    static int term(String text) {
        return x.term(feed(text));
    }

    static int want(String text) {
        return x.want(feed(text));
    }

    static void out(String call, int n, String due) {
        StringBuilder b = new StringBuilder();
        for (int i = 0; i < n; i++) {
            b.append((char) x.out(i));
        }
        if (!b.toString().equals(due)) {
            tell(call + " told " + b + ", due is " + due);
        }
        no("out(" + n + ") behind " + call, x.out(Math.max(n, 0)), 5);
    }

    static void printed(String due) {
        out("print()", x.print(), due);
    }

    static void faulty(String call, int got, int kind, int place) {
        no(call, got, 9);
        is("fault(0) of " + call, x.fault(0), kind);
        is("fault(1) of " + call, x.fault(1), place);
    }

    static void badLoad(String text, int kind, int place) {
        faulty("load " + text, load(text), kind, place);
    }

    static void badTerm(String text, int kind, int place) {
        faulty("term " + text, term(text), kind, place);
    }

    static void badWant(String text, int kind, int place) {
        faulty("want " + text, want(text), kind, place);
    }

    /** A text with a mark ^ ahead of the TOKEN, or the end, at which a FAULT is due. */
    static void loadFault(int kind, String marked) {
        badLoad(marked.replace("^", ""), kind, marked.indexOf('^'));
    }

    static void termFault(int kind, String marked) {
        badTerm(marked.replace("^", ""), kind, marked.indexOf('^'));
    }

    static void wantFault(int kind, String marked) {
        badWant(marked.replace("^", ""), kind, marked.indexOf('^'));
    }

    static void loads(String text, int equations) {
        ok("load " + text, load(text), equations);
    }

    static void terms(String text, int nodes) {
        ok("term " + text, term(text), nodes);
    }

    static void wants(String text, int left) {
        ok("want " + text, want(text), left);
    }

    static String times(String s, int n) {
        StringBuilder b = new StringBuilder();
        for (int i = 0; i < n; i++) {
            b.append(s);
        }
        return b.toString();
    }

    /** S(S(..A..)) with so many S. */
    static String tower(int n) {
        return tower(n, "A");
    }

    static String tower(int n, String inmost) {
        return times("S(", n) + inmost + times(")", n);
    }

    /** P(a,P(b,..)) of the first so many VARIABLES of one letter: twice as many NODES but one. */
    static String pairs(int n) {
        StringBuilder b = new StringBuilder();
        for (int i = 0; i < n - 1; i++) {
            b.append("P(").append((char) ('a' + i)).append(',');
        }
        return b.append((char) ('a' + n - 1)).append(times(")", n - 1)).toString();
    }

    static void badIs(int f, int kind, int e, int other) {
        if (kind == 0) {
            no("bad(" + f + ", 0)", x.bad(f, 0), 5);
            return;
        }
        ok("bad(" + f + ", 0)", x.bad(f, 0), kind);
        ok("bad(" + f + ", 1)", x.bad(f, 1), e);
        ok("bad(" + f + ", 2)", x.bad(f, 2), other);
    }

    static void wantedIs(int left, int kind, int of, int rounds, int unknowns, int bits) {
        int[] due = {left, kind, of, rounds, unknowns, bits};
        for (int what = 0; what < 6; what++) {
            ok("wanted(" + what + ")", x.wanted(what), due[what]);
        }
    }
}
