/**
 * The edges of what is told: a new object, STATUS, FAMILIES and EQUATIONS. Each method is named by its
 * promise and stands for one sentence: at the edge, one before it, one behind it.
 */
public final class ToldBoundaryTest extends Calls {
    private static final String SOME = "con A 0;con B 0;con S 1;con P 2;con T 3;";

    private static void promise01NothingAtFirst() {
        begin(1, "No CONSTRUCTORS, FAMILIES, EQUATIONS, no TERM; STATUS 0");
        is("status()", x.status(), 0);
        for (int what = 0; what < 3; what++) {
            ok("many(" + what + ")", x.many(what), 0);
        }
        no("family(0, 0)", x.family(0, 0), 2);
        no("equation(0, 0)", x.equation(0, 0), 2);
        no("meets(0, 0)", x.meets(0, 0), 2);
        no("compatible(0, 0)", x.compatible(0, 0), 2);
        no("ends(0, 0, 0)", x.ends(0, 0, 0), 2);
        no("parts(0, 0)", x.parts(0, 0), 2);
        no("bad(0, 0)", x.bad(0, 0), 2);
        no("now(0)", x.now(0), 3);
        no("node(0, 0)", x.node(0, 0), 3);
        no("why(0, 0)", x.why(0, 0), 3);
        no("still(0, 0)", x.still(0, 0), 3);
        no("step(0)", x.step(0), 3);
        no("reduce(0)", x.reduce(0), 3);
        no("would(0, 0)", x.would(0, 0), 3);
        no("period()", x.period(), 5);
        no("print()", x.print(), 3);
        no("out(0)", x.out(0), 5);
        no("wanted(0)", x.wanted(0), 5);
        no("unknown(0)", x.unknown(0), 2);
    }

    private static void promise01WithoutALoad() {
        begin(1, "No CONSTRUCTORS, FAMILIES, EQUATIONS");
        termFault(3, "^A");
        terms("x", 1);
        ok("now(3)", x.now(3), 0);
        ok("node(0, 3)", x.node(0, 3), -1);
        no("step(0)", x.step(0), 5);
        ok("reduce(0)", x.reduce(0), 0);
        no("why(0, 0)", x.why(0, 0), 2);
        printed("x");
        wants("want ?a=x;want x=y;", 1);
        wantedIs(1, 1, 1, 1, 1, 1);
        out("unknown(0)", x.unknown(0), "x");
        begin(1, "a term() of nothing");
        termFault(2, "^");
        begin(1, "a want() of nothing");
        wants("", 0);
        begin(1, "a load() of nothing");
        loads("", 0);
    }

    private static void promise01LastOfItsCalls() {
        begin(1, "at most 512 calls after it has been made");
        loads("con A 0;con S 1;open F 1;eq F(S(x))=F(x);", 1); // 3 feeds, load and status
        terms("F(" + tower(3) + ")", 5); // a feed, term and status
        for (int i = 8; i < 510; i++) {
            is("would(0, 0)", x.would(0, 0), 3);
        }
        is("call 511", x.reduce(0), 3);
        is("call 512", x.now(0), 2);
        for (int i = 0; i < 100; i++) {
            x.now(0);
        }
    }

    private static void promise02LatestThatHasOne() {
        begin(2, "STATUS of the latest call that has one");
        int[] due = {1, 2, 3, 5, 9, 6, 7, 8, 0};
        for (int status : due) {
            begin(2, "STATUS " + status);
            loads("con A 0;con S 1;con P 2;open F 1;open C 1;open L 1;"
                + "eq F(x)=P(x,x);eq C(S(x))=C(x);eq C(A)=L(S(A));eq L(S(x))=L(x);eq L(A)=C(A);", 5);
            bring(status);
            is("status()", x.status(), status);
            for (int i = 0; i < 46; i++) {
                x.feed(0, 0, 0, 0, 0);
            }
            is("status() behind a feed() that gave NONE", x.status(), status);
            x.fault(0);
            x.fault(2);
            is("status() behind fault()", x.status(), status);
            is("status() again", x.status(), status);
        }
    }

    private static void bring(int status) {
        switch (status) {
            case 1: x.many(3); break;
            case 2: x.family(3, 0); break;
            case 3: x.print(); break;
            case 5: x.period(); break;
            case 9: term("F("); break;
            case 6: term("F(" + tower(29) + ")"); x.step(0); break;
            case 7: term("C(A)"); x.reduce(0); break;
            case 8: load("con A 0;con S 1;open R 2;eq R(S(x),y)=R(x,S(y));eq R(A,S(y))=R(y,A);");
                term("R(" + tower(6) + "," + tower(4) + ")"); x.reduce(0); break;
            default: x.many(0);
        }
    }

    private static void promise06Many() {
        begin(6, "How many CONSTRUCTORS (what 0), FAMILIES (1), EQUATIONS (2) (1)");
        loads("con A 0;con B 0;con C 0;con D 0;con E 0;con G 0;con H 0;con I 0;open F 1;closed J 1;open K 1;"
            + "open L 1;open M 1;" + times("eq F(x)=x;", 16), 16);
        ok("many(0)", x.many(0), 8);
        ok("many(1)", x.many(1), 5);
        ok("many(2)", x.many(2), 16);
        for (int what : outside(2)) {
            no("many(" + what + ")", x.many(what), 1);
        }
    }

    private static void familyIs(int f, int... due) {
        for (int what = 0; what < 8; what++) {
            ok("family(" + f + ", " + what + ")", x.family(f, what), due[what]);
        }
    }

    private static void promise07OfTheLatestLoad() {
        begin(7, "of what the latest load() told, however much was told ahead of it");
        String full = SOME + "closed F 1 back;closed G 1 back;open H 1;open I 1;open J 1;"
            + times("eq F(A)=G(A);", 8) + times("eq F(x)=J(x);", 8);
        for (int i = 0; i < 3; i++) {
            loads(full, 16);
            familyIs(0, 1, 1, 1, 16, 18, 18, 0, 0);
            ok("parts(0, 1)", x.parts(0, 1), 8);
            badIs(0, 2, 0, -1);
            familyIs(4, 1, 0, 0, 0, 0, 0, 1, 0);
        }
        for (int i = 0; i < 3; i++) {
            loads("con A 0;open F 2;open G 1 back;eq F(A,x)=A;", 1);
            familyIs(0, 2, 0, 0, 1, 0, 0, 1, 0);
            familyIs(1, 1, 0, 1, 0, 0, 0, 1, 1);
            no("family(2, 0)", x.family(2, 0), 2);
            no("equation(1, 0)", x.equation(1, 0), 2);
            badIs(0, 3, 0, -1);
            badIs(1, 0, 0, 0);
            no("parts(0, 0)", x.parts(0, 0), 5);
            termFault(3, "^B");
            terms("F(A,G(A))", 4);
            ok("now(3)", x.now(3), 1);
        }
        for (int nodes = 15; nodes >= 0; nodes--) {
            for (int i = 0; i < 2; i++) {
                String right = nodes == 0 ? "x" : tower(nodes - 1, "G(x)");
                loads("con S 1;open F 1;open G 1;eq F(S(S(x)))=" + right + ";", 1);
                ok("family(0, 4)", x.family(0, 4), nodes == 0 ? 0 : 2);
                ok("equation(0, 5)", x.equation(0, 5), 0);
            }
        }
        loads("", 0);
        termFault(3, "^A");
        no("family(0, 0)", x.family(0, 0), 2);
    }

    private static void promise07WhichFamily() {
        begin(7, "(1; 2)");
        loads("open F 1;closed G 2 back;open H 3;open I 1;closed J 1;", 0);
        for (int what : outside(7)) {
            no("family(0, " + what + ")", x.family(0, what), 1);
            no("family(5, " + what + ")", x.family(5, what), 1);
            no("family(-1, " + what + ")", x.family(-1, what), 1);
        }
        for (int f : outside(4)) {
            no("family(" + f + ", 0)", x.family(f, 0), 2);
            no("family(" + f + ", 7)", x.family(f, 7), 2);
        }
        int[][] due = {{1, 0, 0, 0, 0, 0, 1, 0}, {2, 1, 1, 0, 0, 0, 1, 1}, {3, 0, 0, 0, 0, 0, 1, 0}, {1, 0, 0, 0, 0, 0, 1, 0},
            {1, 1, 0, 0, 0, 0, 1, 0}};
        for (int f = 0; f < 5; f++) {
            for (int what = 0; what < 8; what++) {
                ok("family(" + f + ", " + what + ") without EQUATIONS", x.family(f, what), due[f][what]);
            }
        }
    }

    private static void promise07HowManyEquations() {
        begin(7, "3: EQUATIONS");
        for (int n = 0; n <= 16; n++) {
            loads("open F 1;open G 1;" + times("eq F(x)=x;", n) + times("eq G(x)=x;", 16 - n), 16);
            ok("family(0, 3)", x.family(0, 3), n);
            ok("family(1, 3)", x.family(1, 3), 16 - n);
        }
    }

    private static void promise07FamiliesOnTheRight() {
        begin(7, "4: FAMILIES on the right sides of these, as bits, 5: likewise, again and again");
        String told = "con S 1;open F 1;open G 1;open H 1;open I 1;open J 1;";
        loads(told + "eq F(x)=G(x);eq G(x)=S(H(x));eq H(x)=I(S(x));eq I(x)=J(x);", 4);
        int[] four = {2, 4, 8, 16, 0};
        int[] five = {30, 28, 24, 16, 0};
        for (int f = 0; f < 5; f++) {
            ok("family(" + f + ", 4)", x.family(f, 4), four[f]);
            ok("family(" + f + ", 5)", x.family(f, 5), five[f]);
        }
        loads(told + "eq J(x)=I(x);eq I(x)=S(H(x));eq H(x)=G(S(x));eq G(x)=F(x);", 4);
        for (int f = 0; f < 5; f++) {
            ok("backwards: family(" + f + ", 5)", x.family(f, 5), (1 << f) - 1);
        }
        loads(told + "eq F(x)=G(x);eq G(x)=H(x);eq H(x)=I(x);eq I(x)=J(x);eq J(x)=F(x);", 5);
        for (int f = 0; f < 5; f++) {
            ok("in a circle: family(" + f + ", 5)", x.family(f, 5), 31);
        }
        loads(told + "eq F(x)=F(x);eq G(x)=H(I(J(x)));eq G(S(x))=F(x);", 3);
        ok("itself: family(0, 4)", x.family(0, 4), 1);
        ok("in one another: family(1, 4)", x.family(1, 4), 29);
        ok("family(2, 4)", x.family(2, 4), 0);
    }

    private static void promise07Coherent() {
        begin(7, "6: 1 if it is COHERENT");
        loads(SOME + "open F 1;open G 1;open H 1;open I 1;eq G(x)=A;eq H(A)=A;eq H(B)=B;eq H(x)=x;eq I(A)=A;eq I(B)=B;"
            + "eq I(x)=A;", 7);
        int[] due = {1, 1, 1, 0};
        for (int f = 0; f < 4; f++) {
            ok("family(" + f + ", 6)", x.family(f, 6), due[f]);
        }
    }

    private static void promise07ToldBack() {
        begin(7, "7: 1 if it is told back and CAN BE USED BACKWARDS");
        loads(SOME + "open F 1 back;open G 1;open H 1 back;open I 1;closed J 1 back;"
            + "eq F(x)=S(x);eq G(x)=S(x);eq H(x)=A;eq I(x)=A;", 4);
        int[] due = {1, 0, 0, 0, 1};
        for (int f = 0; f < 5; f++) {
            ok("family(" + f + ", 7)", x.family(f, 7), due[f]);
        }
    }

    private static void promise08WhichEquation() {
        begin(8, "(1; 2)");
        no("equation(0, 6) of none", x.equation(0, 6), 1);
        no("equation(0, 5) of none", x.equation(0, 5), 2);
        loads("open F 1;closed G 1;" + times("eq F(x)=x;eq G(y)=G(y);", 8), 16);
        for (int what : outside(5)) {
            no("equation(0, " + what + ")", x.equation(0, what), 1);
            no("equation(16, " + what + ")", x.equation(16, what), 1);
        }
        for (int e : outside(15)) {
            no("equation(" + e + ", 0)", x.equation(e, 0), 2);
            no("equation(" + e + ", 5)", x.equation(e, 5), 2);
        }
        for (int e = 0; e < 16; e++) {
            ok("equation(" + e + ", 0)", x.equation(e, 0), e % 2);
            ok("equation(" + e + ", 1)", x.equation(e, 1), e / 2);
        }
    }

    private static void promise08HowMuchOfIt() {
        begin(8, "2: how many unlike VARIABLES, 3, 4: NODES of its left, right side");
        loads(SOME + "open F 1;eq F(A)=A;eq F(x)=F(x);eq F(P(x,x))=x;eq F(" + pairs(6) + ")=" + pairs(6) + ";eq F("
            + tower(14) + ")=" + tower(15) + ";", 5);
        int[][] due = {{0, 2, 1}, {1, 2, 2}, {1, 4, 1}, {6, 12, 11}, {0, 16, 16}};
        for (int e = 0; e < 5; e++) {
            for (int what = 2; what <= 4; what++) {
                ok("equation(" + e + ", " + what + ")", x.equation(e, what), due[e][what - 2]);
            }
        }
    }

    private static void bounded(String equation, int due) {
        loads(SOME + "open F 1;open G 2;open H 3;eq " + equation + ";", 1);
        ok("equation(0, 5) of " + equation, x.equation(0, 5), due);
    }

    private static void promise08Bounded() {
        begin(8, "1 no FAMILY is in its ARGUMENTS");
        bounded("F(x)=x", 0);
        bounded("F(S(S(S(x))))=F(x)", 0);
        bounded("F(S(S(S(x))))=F(F(x))", 1);
        bounded("F(S(S(S(S(x)))))=F(S(F(x)))", 1);
        bounded("F(S(S(S(x))))=P(F(x),F(x))", 0);
        begin(8, "2 it has fewer NODES than the left side");
        bounded("F(S(S(x)))=F(x)", 0);
        bounded("F(S(S(x)))=F(S(x))", 0);
        bounded("F(S(S(x)))=F(S(S(x)))", 2);
        bounded("F(S(S(x)))=F(S(S(S(x))))", 2);
        bounded("F(S(S(x)))=G(A,x)", 0);
        bounded("F(S(S(x)))=H(A,A,x)", 2);
        bounded("F(S(S(x)))=S(S(S(F(x))))", 0);
        begin(8, "3 no VARIABLE stands oftener in it than on the left side");
        bounded("F(T(x,x,y))=G(x,A)", 0);
        bounded("F(T(x,x,y))=G(x,x)", 0);
        bounded("F(T(x,x,y))=H(x,x,x)", 3);
        bounded("F(T(x,x,y))=H(x,x,y)", 0);
        bounded("F(T(x,x,y))=H(x,y,y)", 3);
        bounded("F(S(S(x)))=P(F(x),F(x))", 0);
        bounded("F(S(S(x)))=G(x,x)", 3);
        bounded("F(S(S(x)))=P(x,F(x))", 0);
        bounded("F(S(S(x)))=P(F(x),x)", 0);
        begin(8, "the least of these that fails for one");
        bounded("F(S(S(x)))=P(G(x,x),F(S(S(x))))", 2);
        bounded("F(S(S(x)))=P(F(S(S(x))),G(x,x))", 2);
        bounded("F(S(S(x)))=P(G(x,x),F(F(x)))", 1);
        bounded("F(S(S(x)))=T(F(S(S(A))),G(x,x),F(F(A)))", 1);
        bounded("F(S(S(x)))=P(F(x),G(x,x))", 3);
        bounded("F(x)=G(x,x)", 2);
        bounded("F(x)=G(F(x),x)", 1);
    }

    /** Loads two EQUATIONS of one FAMILY; how their left sides meet is the same both ways. */
    private static void meet(String one, String other, int due) {
        loads(SOME + "open F 1;open G 2;open H 3;eq " + one + ";eq " + other + ";", 2);
        ok("meets(0, 1) of " + one + " and " + other, x.meets(0, 1), due);
        ok("meets(1, 0) of " + one + " and " + other, x.meets(1, 0), due);
        ok("meets(0, 0) of " + one, x.meets(0, 0), 1);
    }

    private static void promise09Meets() {
        begin(9, "0 APART, 1 they meet");
        meet("F(A)=A", "F(A)=B", 1);
        meet("F(A)=A", "F(B)=A", 0);
        meet("F(S(A))=A", "F(S(B))=A", 0);
        meet("F(S(A))=A", "F(S(x))=A", 1);
        meet("F(S(A))=A", "F(P(x,y))=A", 0);
        meet("G(x,x)=A", "G(A,B)=A", 0);
        meet("G(x,x)=A", "G(A,A)=A", 1);
        meet("G(x,y)=A", "G(A,B)=A", 1);
        meet("G(x,x)=A", "G(y,z)=A", 1);
        begin(9, "VARIABLES of two EQUATIONS are unlike ones, whatever they are called");
        meet("F(x)=A", "F(S(x))=A", 1);
        meet("G(x,A)=A", "G(B,x)=A", 1);
        begin(9, "of unlike ones: APART");
        meet("F(A)=A", "G(A,A)=A", 0);
        meet("F(x)=A", "H(x,y,z)=A", 0);
    }

    private static void promise09Circles() {
        begin(9, "BY A CIRCLE if it can only be with endless TERMS");
        meet("G(x,x)=A", "G(y,S(y))=A", 2);
        meet("G(x,x)=A", "G(y,S(A))=A", 1);
        meet("G(x,S(x))=A", "G(S(y),y)=A", 2);
        meet("G(x,S(x))=A", "G(y,y)=A", 2);
        meet("G(x,S(x))=A", "G(y,S(y))=A", 1);
        meet("G(x,S(x))=A", "G(S(y),z)=A", 1);
        meet("H(x,y,S(S(x)))=A", "H(S(z),z,y)=A", 1);
        meet("H(x,S(x),S(x))=A", "H(z,y,S(y))=A", 2);
        meet("H(x,x,y)=A", "H(y,P(y,z),z)=A", 2);
        meet("H(x,x,y)=A", "H(P(y,z),P(z,y),z)=A", 1);
        begin(9, "APART if it can't be with these either");
        meet("H(x,x,A)=A", "H(y,S(y),B)=A", 0);
        meet("H(A,x,x)=A", "H(B,y,S(y))=A", 0);
        meet("H(x,x,x)=A", "H(y,S(y),A)=A", 0);
        meet("H(x,x,x)=A", "H(y,S(y),S(z))=A", 2);
        meet("G(x,x)=A", "G(S(S(y)),S(y))=A", 2);
        meet("H(x,x,x)=A", "H(y,P(y,y),P(A,z))=A", 0);
    }

    private static void promise09WhichEquation() {
        begin(9, "(2)");
        no("meets(0, 0) of none", x.meets(0, 0), 2);
        loads("open F 1;" + times("eq F(x)=x;", 16), 16);
        for (int e : outside(15)) {
            no("meets(" + e + ", 0)", x.meets(e, 0), 2);
            no("meets(0, " + e + ")", x.meets(0, e), 2);
            no("compatible(" + e + ", 0)", x.compatible(e, 0), 2);
            no("compatible(0, " + e + ")", x.compatible(0, e), 2);
            no("ends(" + e + ", 0, 0)", x.ends(e, 0, 0), 2);
            no("ends(0, " + e + ", 1)", x.ends(0, e, 1), 2);
        }
        ok("meets(15, 0)", x.meets(15, 0), 1);
        ok("compatible(0, 15)", x.compatible(0, 15), 1);
        ok("ends(15, 15, 1)", x.ends(15, 15, 1), 1);
    }

    private static void agree(String one, String other, int due) {
        loads(SOME + "open F 1;open G 2;open H 3;eq " + one + ";eq " + other + ";", 2);
        ok("compatible(0, 1) of " + one + " and " + other, x.compatible(0, 1), due);
        ok("compatible(1, 0) of " + one + " and " + other, x.compatible(1, 0), due);
        ok("compatible(1, 1)", x.compatible(1, 1), 1);
        ok("family(..., 6)", x.family(x.equation(0, 0), 6), due);
    }

    private static void promise10Compatible() {
        begin(10, "if their left sides are APART");
        agree("F(A)=A", "F(B)=B", 1);
        agree("H(x,x,A)=A", "H(y,S(y),B)=B", 1);
        begin(10, "they meet, not BY A CIRCLE");
        agree("G(x,x)=A", "G(y,S(y))=A", 0);
        agree("G(x,x)=A", "G(y,S(z))=A", 1);
        begin(10, "their right sides become the same");
        agree("G(x,A)=x", "G(A,y)=y", 1);
        agree("G(x,A)=x", "G(B,y)=y", 0);
        agree("G(x,y)=x", "G(x,y)=y", 0);
        agree("G(x,y)=x", "G(y,x)=y", 1);
        agree("G(x,x)=x", "G(y,z)=z", 1);
        agree("F(S(x))=F(x)", "F(y)=F(y)", 0);
        agree("F(S(x))=F(S(x))", "F(y)=F(y)", 1);
        begin(10, "as they are written, nothing reduced");
        agree("F(x)=F(A)", "F(A)=A", 0);
        agree("F(x)=S(F(A))", "F(y)=S(F(B))", 0);
        agree("F(x)=S(F(A))", "F(y)=S(F(A))", 1);
        agree("F(x)=S(F(x))", "F(A)=S(F(A))", 1);
        agree("F(x)=P(F(x),F(x))", "F(S(y))=P(F(S(y)),F(y))", 0);
        agree("F(x)=S(F(A))", "F(y)=S(F(F(A)))", 0);
        begin(10, "an EQUATION and itself");
        loads("con A 0;open F 1;eq F(A)=A;eq F(x)=x;", 2);
        ok("compatible(0, 0)", x.compatible(0, 0), 1);
        ok("compatible(1, 1)", x.compatible(1, 1), 1);
        begin(10, "(2; 5: of two FAMILIES)");
        loads("open F 1;open G 1;eq F(x)=x;eq G(x)=x;", 2);
        no("compatible(0, 1)", x.compatible(0, 1), 5);
        no("compatible(1, 0)", x.compatible(1, 0), 5);
        no("compatible(1, 2)", x.compatible(1, 2), 2);
    }

    private static void ends(String one, String other, String first, String second) {
        loads(SOME + "open F 1;open G 2;open H 3;eq " + one + ";eq " + other + ";", 2);
        out("ends(0, 1, 0) of " + one + " and " + other, x.ends(0, 1, 0), first);
        out("ends(0, 1, 1) of " + one + " and " + other, x.ends(0, 1, 1), second);
        out("ends(1, 0, 1) of " + one + " and " + other, x.ends(1, 0, 1), first);
        out("ends(1, 0, 0) of " + one + " and " + other, x.ends(1, 0, 0), second);
    }

    private static void promise11VariablesInTheirOrder() {
        begin(11, "VARIABLES are a, b, .. in the order in which they first stand in the left side of both");
        ends("F(A)=A", "F(x)=x", "A", "A");
        ends("G(z,y)=P(y,z)", "G(p,q)=p", "P(b,a)", "a");
        ends("G(z,A)=S(z)", "G(p,q)=P(q,p)", "S(a)", "P(A,a)");
        ends("G(z,S(y))=y", "G(P(p,q),r)=T(r,q,p)", "c", "T(S(c),b,a)");
        ends("G(z,z)=z", "G(P(p,q),P(r,r))=T(p,q,r)", "P(a,a)", "T(a,a,a)");
        ends("H(x,y,z)=T(z,y,x)", "H(p,p,q)=P(q,p)", "T(b,a,a)", "P(b,a)");
        ends("G(x,T(P(a,b),P(c,d),e))=P(x,P(e,a))", "G(T(P(f,g),P(h,i),j),y)=P(y,P(j,f))",
            "P(T(P(a,b),P(c,d),e),P(j,f))", "P(T(P(f,g),P(h,i),j),P(e,a))");
        loads(SOME + "open H 3;eq H(P(a,b),P(c,d),P(e,f))=P(P(f,e),P(P(d,c),P(b,a)));", 1);
        out("ends(0, 0, 0)", x.ends(0, 0, 0), "P(P(f,e),P(P(d,c),P(b,a)))");
        out("ends(0, 0, 1)", x.ends(0, 0, 1), "P(P(f,e),P(P(d,c),P(b,a)))");
        ends("F(x)=S(F(x))", "F(S(y))=P(F(F(y)),S(F(y)))", "S(F(S(a)))", "P(F(F(a)),S(F(a)))");
        ends("G(x,y)=P(F(y),F(x))", "G(A,y)=T(G(y,y),F(A),y)", "P(F(a),F(A))", "T(G(a,a),F(A),a)");
        loads("con Abcdef 0;open Ffffff 1;eq Ffffff(x)=Ffffff(Abcdef);", 1);
        out("ends(0, 0, 1)", x.ends(0, 0, 1), "Ffffff(Abcdef)");
    }

    private static void promise11Refused() {
        begin(11, "(1; 2; 5: of two FAMILIES, they don't meet, or BY A CIRCLE)");
        loads(SOME + "open F 1;open G 2;eq F(A)=A;eq F(B)=B;eq G(x,x)=A;eq G(x,S(x))=A;eq F(x)=S(S(x));", 5);
        no("out(0): there is none yet", x.out(0), 5);
        ok("ends(0, 4, 1)", x.ends(0, 4, 1), 7);
        for (int what : outside(1)) {
            no("ends(0, 0, " + what + ")", x.ends(0, 0, what), 1);
            no("ends(9, 0, " + what + ")", x.ends(9, 0, what), 1);
        }
        no("ends(5, 0, 0)", x.ends(5, 0, 0), 2);
        no("ends(0, 5, 0)", x.ends(0, 5, 0), 2);
        no("of two FAMILIES", x.ends(0, 2, 0), 5);
        no("they don't meet", x.ends(0, 1, 0), 5);
        no("by a circle", x.ends(2, 3, 1), 5);
        ok("OUT stays", x.out(6), ')');
        no("OUT stays", x.out(7), 5);
    }

    private static void promise11LongestEnds() {
        begin(11, "how many bytes");
        loads("con Pppppp 3;open F 3;eq F(a,Pppppp(b,b,b),Pppppp(b,Pppppp(c,c,c),c))=Pppppp(a,a,a);"
            + "eq F(Pppppp(p,p,p),p,Pppppp(Pppppp(q,q,q),q,Pppppp(z,z,z)))=q;", 2);
        // 4 rows of three times as many, around P(a,a,a): each 6 + 2 + 2 bytes and three of the one in it.
        int bytes = 1;
        for (int i = 0; i < 6; i++) {
            bytes = 10 + 3 * bytes;
        }
        ok("ends(0, 1, 0)", x.ends(0, 1, 0), bytes);
        ok("out(0)", x.out(0), 'P');
        ok("the last byte", x.out(bytes - 1), ')');
        no("one behind it", x.out(bytes), 5);
    }

    private static void promise12FirstTwo() {
        begin(12, "The first two EQUATIONS of a FAMILY that are not COMPATIBLE");
        loads(SOME + "open F 1;open G 1;eq F(S(A))=A;eq F(A)=A;eq G(A)=A;eq F(A)=B;eq F(S(x))=B;", 5);
        ok("parts(0, 0)", x.parts(0, 0), 0);
        ok("parts(0, 1)", x.parts(0, 1), 4);
        no("parts(1, 0): one EQUATION", x.parts(1, 0), 5);
        loads(SOME + "open F 1;open G 1;eq F(S(A))=A;eq F(A)=A;eq G(A)=A;eq F(A)=B;eq F(A)=B;eq G(x)=B;", 6);
        ok("parts(0, 0)", x.parts(0, 0), 1);
        ok("parts(0, 1)", x.parts(0, 1), 3);
        ok("parts(1, 0)", x.parts(1, 0), 2);
        ok("parts(1, 1)", x.parts(1, 1), 5);
        loads("con A 0;con B 0;open F 1;" + times("eq F(A)=A;", 15) + "eq F(x)=B;", 16);
        ok("parts(0, 0)", x.parts(0, 0), 0);
        ok("parts(0, 1)", x.parts(0, 1), 15);
        loads("con A 0;con B 0;open F 1;" + times("eq F(A)=A;", 14) + "eq F(B)=A;eq F(B)=B;", 16);
        ok("parts(0, 0)", x.parts(0, 0), 14);
        ok("parts(0, 1)", x.parts(0, 1), 15);
    }

    private static void promise12Refused() {
        begin(12, "(1; 2; 5: it is COHERENT)");
        no("parts(0, 0) of none", x.parts(0, 0), 2);
        loads("con A 0;open F 1;open G 1;open H 1;open I 1;open J 1;eq F(x)=A;", 1);
        for (int what : outside(1)) {
            no("parts(0, " + what + ")", x.parts(0, what), 1);
            no("parts(5, " + what + ")", x.parts(5, what), 1);
        }
        for (int f : outside(4)) {
            no("parts(" + f + ", 0)", x.parts(f, 0), 2);
        }
        no("one EQUATION", x.parts(0, 1), 5);
        no("no EQUATION", x.parts(4, 0), 5);
    }

    private static void bads(String equations, int kind, int e, int other) {
        for (String told : new String[] {"open F 1 back;open G 2 back;", "closed F 1;closed G 2;"}) {
            loads(SOME + told + "open H 1;" + equations, equations.split("eq ").length - 1);
            for (int f = 0; f < 2; f++) {
                if (x.family(f, 3) > 0) {
                    badIs(f, kind, e, other);
                    ok("family(" + f + ", 7)", x.family(f, 7), kind == 0 && told.contains("back") ? 1 : 0);
                }
            }
        }
    }

    private static void promise13ByOne() {
        begin(13, "1 its right side is a VARIABLE (unless it is its only EQUATION and has one ARGUMENT, a VARIABLE)");
        bads("eq F(x)=x;", 0, 0, 0);
        bads("eq F(S(x))=x;", 1, 0, -1);
        bads("eq F(x)=x;eq F(y)=y;", 1, 0, -1);
        bads("eq F(A)=A;eq F(x)=x;", 1, 1, -1);
        bads("eq F(x)=x;eq H(x)=x;", 0, 0, 0);
        bads("eq H(x)=x;eq F(x)=x;", 0, 0, 0);
        bads("eq G(x,y)=x;", 1, 0, -1);
        bads("eq G(x,x)=x;", 1, 0, -1);
        bads("eq G(x,A)=x;", 1, 0, -1);
        begin(13, "2 its right side is a FAMILY");
        bads("eq F(x)=F(x);", 2, 0, -1);
        bads("eq F(x)=H(x);", 2, 0, -1);
        bads("eq F(x)=P(x,H(x));", 0, 0, 0);
        begin(13, "3 a VARIABLE of its left side stands on its right in no place, or only in FAMILIES there");
        bads("eq F(x)=A;", 3, 0, -1);
        bads("eq F(A)=A;", 0, 0, 0);
        bads("eq F(x)=S(H(x));", 3, 0, -1);
        bads("eq F(x)=S(H(S(x)));", 3, 0, -1);
        bads("eq F(x)=P(H(x),x);", 0, 0, 0);
        bads("eq G(x,y)=P(x,x);", 3, 0, -1);
        bads("eq G(x,y)=P(y,H(x));", 3, 0, -1);
        bads("eq G(x,y)=P(y,x);", 0, 0, 0);
    }

    private static void promise13LeastKind() {
        begin(13, "the first EQUATION that is (the least kind)");
        bads("eq G(x,y)=x;", 1, 0, -1);
        bads("eq G(x,y)=H(x);", 2, 0, -1);
        bads("eq G(x,y)=A;eq G(x,y)=x;", 3, 0, -1);
        bads("eq G(A,A)=A;eq G(x,y)=H(x);eq G(x,y)=x;", 2, 1, -1);
        bads("eq F(A)=S(A);eq F(B)=S(A);eq F(x)=A;", 3, 2, -1);
        bads("eq F(A)=S(A);eq F(B)=S(A);eq F(x)=S(x);", 4, 0, 1);
    }

    private static void promise13ByTwo() {
        begin(13, "4 their right sides FLAT meet, not BY A CIRCLE, and their left sides aren't the same by that JOINING");
        bads("eq F(A)=A;eq F(B)=B;", 0, 0, 0);
        bads("eq F(A)=A;eq F(B)=A;", 4, 0, 1);
        bads("eq F(A)=A;eq F(A)=A;", 0, 0, 0);
        bads("eq F(A)=S(A);eq F(x)=S(x);", 0, 0, 0);
        bads("eq F(S(A))=S(A);eq F(x)=S(x);", 4, 0, 1);
        bads("eq F(x)=S(x);eq F(S(A))=S(A);", 4, 0, 1);
        bads("eq G(x,y)=P(x,y);eq G(x,y)=P(y,x);", 4, 0, 1);
        bads("eq G(x,y)=P(x,y);eq G(z,A)=P(z,A);", 0, 0, 0);
        begin(13, "not BY A CIRCLE");
        bads("eq F(x)=P(x,x);eq F(S(y))=P(y,S(y));", 0, 0, 0);
        bads("eq F(x)=P(x,x);eq F(S(y))=P(y,y);", 4, 0, 1);
        begin(13, "FLAT (of each by itself)");
        bads("eq F(A)=P(H(A),A);eq F(B)=P(B,A);", 4, 0, 1);
        bads("eq F(A)=P(H(A),A);eq F(B)=P(B,B);", 0, 0, 0);
        bads("eq F(A)=P(H(A),H(A));eq F(B)=P(A,B);", 0, 0, 0);
        bads("eq F(A)=P(H(A),H(B));eq F(B)=P(A,B);", 4, 0, 1);
        bads("eq F(A)=P(H(A),S(H(A)));eq F(B)=P(H(B),H(A));", 4, 0, 1);
        begin(13, "else the first two (the first, then the other one)");
        bads("eq F(A)=A;eq F(B)=B;eq F(S(A))=S(A);eq F(S(B))=B;", 4, 1, 3);
        bads("eq F(A)=A;eq F(B)=B;eq F(S(A))=B;eq F(S(B))=A;", 4, 0, 3);
        bads("eq F(A)=A;eq F(B)=A;eq F(S(A))=A;", 4, 0, 1);
    }

    private static void promise13Refused() {
        begin(13, "(1; 2; 5: it can); STATUS tells NONE from -1");
        no("bad(0, 0) of none", x.bad(0, 0), 2);
        loads("con A 0;open F 1;open G 1;open H 1;open I 1;open J 1 back;eq F(x)=A;eq G(A)=A;", 2);
        for (int what : outside(2)) {
            no("bad(0, " + what + ")", x.bad(0, what), 1);
            no("bad(5, " + what + ")", x.bad(5, what), 1);
        }
        for (int f : outside(4)) {
            no("bad(" + f + ", 0)", x.bad(f, 0), 2);
        }
        ok("NONE but for 4", x.bad(0, 2), -1);
        for (int what = 0; what < 3; what++) {
            no("it can: bad(1, " + what + ")", x.bad(1, what), 5);
            no("no EQUATION: bad(4, " + what + ")", x.bad(4, what), 5);
        }
    }

    public static void main(String[] args) {
        runAll(ToldBoundaryTest.class);
    }
}
