/**
 * The edges of THE TERM: NODES, what FIRES, STEPS, REDUCED, OUT. Each method is named by its promise and
 * stands for one sentence: at the edge, one before it, one behind it.
 */
public final class TermBoundaryTest extends Calls {
    private static final String SOME = "con A 0;con B 0;con S 1;con P 2;con T 3;";
    /** C(S(..A..)) with n S ends behind n + 3 STEPS. */
    private static final String COUNT = "con A 0;con B 0;con D 0;con E 0;con S 1;open C 1;"
        + "eq C(S(x))=C(x);eq C(A)=C(B);eq C(B)=C(D);eq C(D)=C(E);";
    /** R(S^5(A),S^5(A)) ends behind 60 STEPS; one S more on the left and one fewer on the right is a STEP more. */
    private static final String SWAP = "con A 0;con B 0;con S 1;con T 3;open R 2;open K 2;"
        + "eq R(S(x),y)=R(x,S(y));eq R(A,S(y))=R(y,A);eq K(x,y)=T(y,y,y);";

    private static String count(int n) {
        return "C(" + tower(n) + ")";
    }

    private static String swap(int left) {
        return "R(" + tower(left) + "," + tower(10 - left) + ")";
    }

    private static void promise15Now() {
        begin(15, "(1; 3)");
        for (int what : outside(3)) {
            no("now(" + what + ") without a TERM", x.now(what), 1);
        }
        for (int what = 0; what < 4; what++) {
            no("now(" + what + ") without a TERM", x.now(what), 3);
        }
        loads(SOME + "open F 1;eq F(S(x))=x;", 1);
        terms("x", 1);
        for (int what : outside(3)) {
            no("now(" + what + ")", x.now(what), 1);
        }
        nowIs(1, 1, 0, 0);
        terms("A", 1);
        nowIs(1, 1, 0, 0);
        terms("F(x)", 2);
        nowIs(2, 2, 1, 0);
        terms("F(S(x))", 3);
        nowIs(3, 3, 1, 1);
        terms(tower(59), 60);
        nowIs(60, 60, 0, 0);
        terms(times("F(", 59) + "x" + times(")", 59), 60);
        nowIs(60, 60, 59, 0);
        terms("T(" + times("F(S(", 18) + "x" + times("))", 18) + "," + times("F(", 18) + "S(x)" + times(")", 18) + ",x)", 59);
        nowIs(59, 38, 36, 19);
        terms("T(A,P(A,A),A)", 6);
        nowIs(6, 3, 0, 0);
    }

    private static void nowIs(int nodes, int deep, int families, int places) {
        ok("now(0)", x.now(0), nodes);
        ok("now(1)", x.now(1), deep);
        ok("now(2)", x.now(2), families);
        ok("now(3)", x.now(3), places);
    }

    private static void promise16WhichNode() {
        begin(16, "(1; 3; 2); STATUS tells NONE from -1");
        for (int what : outside(4)) {
            no("node(0, " + what + ") without a TERM", x.node(0, what), 1);
        }
        no("node(0, 0) without a TERM", x.node(0, 0), 3);
        no("node(-1, 4) without a TERM", x.node(-1, 4), 3);
        loads(SOME + "open F 1;eq F(S(x))=x;", 1);
        terms(tower(58, "x").replaceFirst("S", "F"), 59);
        for (int what : outside(4)) {
            no("node(0, " + what + ")", x.node(0, what), 1);
            no("node(59, " + what + ")", x.node(59, what), 1);
        }
        for (int k : outside(58)) {
            no("node(" + k + ", 0)", x.node(k, 0), 2);
            no("node(" + k + ", 4)", x.node(k, 4), 2);
        }
        nodeIs(0, 2, 0, 59, 0, 0);
        nodeIs(1, 1, 2, 58, -1, 1);
        nodeIs(57, 1, 2, 2, -1, 57);
        nodeIs(58, 0, 0, 1, -1, 58);
        terms(tower(59), 60);
        nodeIs(59, 1, 0, 1, -1, 59);
        no("node(60, 0)", x.node(60, 0), 2);
    }

    private static void nodeIs(int k, int... due) {
        for (int what = 0; what < 5; what++) {
            ok("node(" + k + ", " + what + ")", x.node(k, what), due[what]);
        }
    }

    private static void promise16NumbersOfVariables() {
        begin(16, "VARIABLES as they first stand in THE TERM as it was told");
        loads(SOME + "open F 1;open G 2;eq F(x)=A;eq G(x,y)=P(y,x);", 2);
        terms(pairs(12), 23);
        for (int i = 0; i < 12; i++) {
            ok("node(.., 1)", x.node(i < 11 ? 2 * i + 1 : 22, 1), i);
        }
        terms("T(F(z),G(y,z),P(x,y))", 9);
        ok("z", x.node(2, 1), 0);
        ok("y", x.node(4, 1), 1);
        ok("z", x.node(5, 1), 0);
        ok("x", x.node(7, 1), 2);
        ok("step(0)", x.step(0), 0);
        ok("z, though it stands behind y now", x.node(4, 1), 0);
        ok("y", x.node(3, 1), 1);
        ok("step(0)", x.step(0), 1);
        printed("T(A,P(z,y),P(x,y))");
        ok("x", x.node(6, 1), 2);
        ok("y", x.node(7, 1), 1);
        badTerm("P(x,", 2, 4);
        ok("a FAULT leaves the numbers", x.node(6, 1), 2);
        terms("P(x,z)", 3);
        ok("x is the first of another TERM", x.node(1, 1), 0);
        ok("z", x.node(2, 1), 1);
    }

    private static void promise17WhichOnes() {
        begin(17, "(3; 2)");
        no("why(-1, -1) without a TERM", x.why(-1, -1), 3);
        no("still(-1, -1) without a TERM", x.still(-1, -1), 3);
        terms("x", 1);
        no("why(0, 0) without EQUATIONS", x.why(0, 0), 2);
        loads("con A 0;open F 1;" + times("eq F(A)=A;", 16), 16);
        terms("F(A)", 2);
        for (int k : outside(1)) {
            no("why(" + k + ", 0)", x.why(k, 0), 2);
            no("still(" + k + ", 0)", x.still(k, 0), 2);
        }
        for (int e : outside(15)) {
            no("why(0, " + e + ")", x.why(0, e), 2);
            no("still(0, " + e + ")", x.still(0, e), 2);
        }
        ok("why(0, 15)", x.why(0, 15), 0);
        ok("why(1, 15)", x.why(1, 15), 1);
        no("still(0, 15)", x.still(0, 15), 5);
        no("still(1, 15)", x.still(1, 15), 5);
    }

    private static void whyIs(String told, String term, int e, int due, int first) {
        loads(SOME + told, told.split("eq ").length - 1);
        term(term);
        ok("why(0, " + e + ") of " + term + " by " + told, x.why(0, e), due);
        if (due == 3) {
            ok("still(0, " + e + ") of " + term + " by " + told, x.still(0, e), first);
        } else {
            no("still(0, " + e + ") of " + term + " by " + told, x.still(0, e), 5);
        }
        if (due == 0 && first < 0) {
            ok("node(0, 3) of " + term + " by " + told, x.node(0, 3), e);
        }
    }

    private static void promise17Fits() {
        begin(17, "a VARIABLE that stands twice has twice the same TERM");
        String twice = "open G 2;open F 1;eq G(x,x)=A;";
        whyIs(twice, "G(A,A)", 0, 0, -1);
        whyIs(twice, "G(A,B)", 0, 2, -1);
        whyIs(twice, "G(y,y)", 0, 0, -1);
        whyIs(twice, "G(y,z)", 0, 2, -1);
        whyIs(twice, "G(P(A,F(B)),P(A,F(B)))", 0, 0, -1);
        whyIs(twice, "G(P(A,F(B)),P(A,F(A)))", 0, 2, -1);
        whyIs(twice, "G(S(A),S(S(A)))", 0, 2, -1);
        begin(17, "the TERM's own VARIABLES, FAMILIES in it are as they are");
        whyIs("open F 1;eq F(A)=A;", "F(A)", 0, 0, -1);
        whyIs("open F 1;eq F(A)=A;", "F(x)", 0, 2, -1);
        whyIs("open F 1;eq F(A)=A;", "F(F(A))", 0, 2, -1);
        whyIs("open F 1;eq F(x)=A;", "F(F(y))", 0, 0, -1);
        begin(17, "1 it isn't of that FAMILY");
        whyIs("open F 1;open G 1;eq F(x)=A;", "G(x)", 0, 1, -1);
        whyIs("open F 1;open G 1;eq F(x)=A;", "S(F(x))", 0, 1, -1);
        whyIs("open F 1;open G 1;eq F(x)=A;", "x", 0, 1, -1);
    }

    private static void promise17MayStill() {
        begin(17, "of a closed FAMILY, each earlier EQUATION of that FAMILY is COMPATIBLE with it, or is APART");
        String two = "closed F 1;eq F(A)=A;eq F(x)=B;";
        whyIs(two, "F(A)", 0, 0, -1);
        whyIs(two, "F(A)", 1, 3, 0);
        whyIs(two, "F(B)", 1, 0, -1);
        whyIs(two, "F(y)", 1, 3, 0);
        whyIs(two, "F(S(y))", 1, 0, -1);
        whyIs(two, "F(F(B))", 1, 3, 0);
        whyIs(two.replace("closed", "open"), "F(y)", 1, 0, -1);
        whyIs(two.replace("closed", "open"), "F(A)", 1, 0, 0);
        whyIs("closed F 1;eq F(A)=B;eq F(x)=B;", "F(y)", 1, 0, -1);
        whyIs("closed F 1;eq F(A)=B;eq F(x)=B;", "F(A)", 1, 0, 0);
        whyIs("closed F 1;closed G 1;eq G(x)=A;eq F(x)=B;", "F(y)", 1, 0, -1);
        whyIs("closed F 1;eq F(x)=B;eq F(A)=A;", "F(y)", 0, 0, -1);
        begin(17, "FLAT: each FAMILY with its ARGUMENTS that is in no other one is a VARIABLE of its own");
        String same = "closed G 2;open F 1;eq G(x,x)=A;eq G(x,y)=B;";
        whyIs(same, "G(A,B)", 1, 0, -1);
        whyIs(same, "G(y,S(y))", 1, 3, 0);
        whyIs(same, "G(y,P(A,z))", 1, 3, 0);
        whyIs(same, "G(S(y),P(A,z))", 1, 0, -1);
        whyIs(same, "G(F(A),F(B))", 1, 3, 0);
        whyIs(same, "G(P(F(A),F(A)),P(A,B))", 1, 0, -1);
        whyIs(same, "G(P(F(A),F(B)),P(A,B))", 1, 3, 0);
        whyIs(same, "G(P(F(y),F(y)),P(A,B))", 1, 0, -1);
        whyIs(same, "G(P(F(y),F(z)),P(A,B))", 1, 3, 0);
        whyIs(same, "G(P(F(F(A)),F(A)),P(A,B))", 1, 3, 0);
        whyIs(same, "G(P(y,y),P(A,B))", 1, 0, -1);
        begin(18, "The first earlier EQUATION that may still");
        String three = "closed F 1;eq F(S(S(x)))=A;eq F(S(A))=A;eq F(x)=B;eq F(y)=A;";
        whyIs(three, "F(z)", 2, 3, 0);
        whyIs(three, "F(S(z))", 2, 3, 0);
        whyIs(three, "F(S(A))", 2, 3, 1);
        whyIs(three, "F(S(A))", 3, 3, 2);
        whyIs(three, "F(A)", 2, 0, -1);
        whyIs(three, "F(A)", 3, 3, 2);
    }

    private static void promise17UnlikeVariables() {
        begin(17, "VARIABLES of THE TERM are none of the EQUATIONS', whatever they are called");
        // As the same VARIABLE it would be S(..) and A at once: APART.
        for (String word : new String[] {"a", "b", "c", "d", "e", "f", "x", "y"}) {
            whyIs("closed G 2;eq G(S(x),y)=A;eq G(x,y)=B;", "G(" + word + ",A)", 1, 3, 0);
            whyIs("closed G 2;eq G(y,S(x))=A;eq G(x,y)=B;", "G(A," + word + ")", 1, 3, 0);
            whyIs("closed G 2;eq G(P(a,b),P(S(c),P(d,P(e,f))))=A;eq G(x,y)=B;",
                "G(P(A,P(A,A)),P(" + word + ",P(A,P(A,A))))", 1, 3, 0);
        }
    }

    private static void promise19NoGiven() {
        begin(19, "a STEP is by an EQUATION alone: GIVEN are for WANTED");
        loads(SOME + "open F 1;open G 1;eq G(x)=F(x);", 1);
        badWant("given F(x)=A;wont", 2, 13);
        terms("F(x)", 2);
        no("step(0)", x.step(0), 5);
        ok("now(3)", x.now(3), 0);
        wants("given F(x)=A;given G(x)=B;want F(x)=A;want G(x)=B;", 0);
        printed("F(x)");
        no("step(0)", x.step(0), 5);
        ok("reduce(1)", x.reduce(1), 0);
        terms("G(x)", 2);
        ok("would(0, 0)", x.would(0, 0), 1);
        ok("reduce(0)", x.reduce(0), 1);
        printed("F(x)");
    }

    private static void promise19Ways() {
        begin(19, "(1; 3; 5: none FIRES; 6)");
        for (int way : outside(1)) {
            no("step(" + way + ") without a TERM", x.step(way), 1);
            no("reduce(" + way + ") without a TERM", x.reduce(way), 1);
            no("would(" + way + ", 0) without a TERM", x.would(way, 0), 1);
        }
        for (int way = 0; way <= 1; way++) {
            no("step(" + way + ") without a TERM", x.step(way), 3);
            no("reduce(" + way + ") without a TERM", x.reduce(way), 3);
            no("would(" + way + ", 0) without a TERM", x.would(way, 0), 3);
            no("would(" + way + ", 1) without a TERM", x.would(way, 1), 3);
        }
        loads(SOME + "open F 1;eq F(A)=A;", 1);
        terms("F(F(F(A)))", 4);
        for (int way : outside(1)) {
            no("step(" + way + ")", x.step(way), 1);
            no("reduce(" + way + ")", x.reduce(way), 1);
        }
        printed("F(F(F(A)))");
        ok("step(1)", x.step(1), 0);
        ok("step(0)", x.step(0), 0);
        ok("step(1)", x.step(1), 0);
        no("step(0): none FIRES", x.step(0), 5);
        no("step(1): none FIRES", x.step(1), 5);
        printed("A");
    }

    private static void promise19FirstPlace() {
        begin(19, "each place behind all that is in it, ARGUMENTS from the left; each place ahead of all that is in it");
        loads(SOME + "open F 1;open G 2;eq F(x)=S(x);eq G(x,y)=P(x,y);", 2);
        String[][] steps = {{"P(F(F(A)),F(B))", "P(F(S(A)),F(B))", "P(S(F(A)),F(B))"}, {"G(F(A),F(B))", "G(S(A),F(B))", "P(F(A),F(B))"},
            {"G(A,F(B))", "G(A,S(B))", "P(A,F(B))"}, {"P(A,G(F(A),A))", "P(A,G(S(A),A))", "P(A,P(F(A),A))"},
            {"P(G(A,A),F(F(A)))", "P(P(A,A),F(F(A)))", "P(P(A,A),F(F(A)))"}};
        for (String[] step : steps) {
            for (int way = 0; way <= 1; way++) {
                term(step[0]);
                x.step(way);
                printed(step[1 + way]);
            }
        }
    }

    private static void promise19Great() {
        begin(19, "a TERM of more than 60 NODES can't be: the STEP isn't done");
        loads("con A 0;con S 1;con P 2;open F 1;open G 1;eq F(x)=P(x,x);eq G(x)=S(S(x));", 2);
        for (int way = 0; way <= 1; way++) {
            terms("F(" + tower(28) + ")", 30);
            ok("59 NODES", x.step(way), 0);
            ok("now(0)", x.now(0), 59);
            terms("S(F(" + tower(28) + "))", 31);
            ok("60 NODES", x.step(way), 0);
            ok("now(0)", x.now(0), 60);
            terms("S(S(F(" + tower(28) + ")))", 32);
            no("61 NODES", x.step(way), 6);
            ok("now(0)", x.now(0), 32);
            terms("P(F(" + tower(28) + "),A)", 32);
            no("61 NODES, one behind the place", x.step(way), 6);
            terms("G(" + tower(57) + ")", 59);
            ok("60 NODES", x.step(way), 1);
            terms("G(" + tower(58) + ")", 60);
            no("61 NODES", x.step(way), 6);
            printed("G(" + tower(58) + ")");
        }
        terms("F(G(" + tower(27) + "))", 30);
        ok("from without", x.step(1), 0);
        terms("F(G(" + tower(27) + "))", 30);
        ok("from within", x.step(0), 1);
        no("then it is GREAT", x.step(0), 6);
    }

    private static void promise20SixtySteps() {
        begin(20, "STEPS as long as there are any, but 60 at most");
        for (int way = 0; way <= 1; way++) {
            loads(COUNT, 4);
            terms(count(56), 58);
            ok("59 STEPS", x.reduce(way), 59);
            printed("C(E)");
            terms(count(57), 59);
            ok("60 STEPS", x.reduce(way), 60);
            printed("C(E)");
            ok("no STEP", x.reduce(way), 0);
            terms(count(58), 60);
            no("61 STEPS", x.reduce(way), 8);
            printed("C(D)");
            ok("one more", x.reduce(way), 1);
            printed("C(E)");
            terms("E", 1);
            ok("no STEP", x.reduce(way), 0);
        }
    }

    private static void promise20ComesBack() {
        begin(20, "it COMES BACK if behind a STEP it is as it was ahead of any of these STEPS or behind an earlier one");
        String loop = COUNT.replace("eq C(D)=C(E);", "eq C(D)=C(A);");
        for (int way = 0; way <= 1; way++) {
            loads(loop, 4);
            terms(count(56), 58);
            no("at STEP 59", x.reduce(way), 7);
            printed("C(A)");
            ok("period()", x.period(), 3);
            terms(count(57), 59);
            no("at STEP 60", x.reduce(way), 7);
            printed("C(A)");
            terms(count(58), 60);
            no("it would at STEP 61", x.reduce(way), 8);
            printed("C(D)");
            no("now ahead of any of these STEPS", x.reduce(way), 7);
            printed("C(D)");
            ok("period()", x.period(), 3);
        }
    }

    private static void promise20Great() {
        begin(20, "with 6, 7, 8 it is as behind the last STEP that was done");
        loads(SWAP, 3);
        String big = tower(19);
        terms("K(" + swap(3) + "," + big + ")", 34);
        no("58 STEPS, then GREAT", x.reduce(0), 6);
        printed("K(R(A,A)," + big + ")");
        terms("K(" + swap(4) + "," + big + ")", 34);
        no("59 STEPS, then GREAT", x.reduce(0), 6);
        printed("K(R(A,A)," + big + ")");
        terms("K(" + swap(5) + "," + big + ")", 34);
        no("60 STEPS: the one that is GREAT is one more", x.reduce(0), 8);
        printed("K(R(A,A)," + big + ")");
        terms("K(" + swap(5) + "," + tower(18) + ")", 33);
        no("60 STEPS: the one that is not is one more", x.reduce(0), 8);
        terms("K(" + swap(4) + "," + tower(18) + ")", 33);
        ok("60 STEPS", x.reduce(0), 60);
        ok("58 NODES", x.now(0), 58);
        terms("K(A," + big + ")", 22);
        no("GREAT at once", x.reduce(1), 6);
        printed("K(A," + big + ")");
        terms("K(" + swap(4) + "," + tower(18) + ")", 33);
        ok("from without: one STEP", x.reduce(1), 1);
    }

    private static void promise21WouldWhat() {
        begin(21, "(of 1 way does not matter, but must be one) (1; 3; 6, 7, 8 of 0)");
        for (int what : outside(1)) {
            no("would(0, " + what + ") without a TERM", x.would(0, what), 1);
        }
        loads(COUNT, 4);
        terms(count(3), 5);
        for (int bad : outside(1)) {
            no("would(" + bad + ", 0)", x.would(bad, 0), 1);
            no("would(" + bad + ", 1)", x.would(bad, 1), 1);
            no("would(0, " + bad + ")", x.would(0, bad), 1);
            no("would(1, " + bad + ")", x.would(1, bad), 1);
        }
        for (int way = 0; way <= 1; way++) {
            ok("would(" + way + ", 0)", x.would(way, 0), 6);
            ok("would(" + way + ", 1)", x.would(way, 1), 1);
        }
        printed(count(3));
    }

    private static void promise21WouldEnd() {
        begin(21, "6, 7, 8 of 0; it stays");
        loads(COUNT, 4);
        int[] due = {59, 60, -1};
        for (int n = 56; n <= 58; n++) {
            terms(count(n), n + 2);
            is("would(0, 0)", x.would(0, 0), due[n - 56]);
            is("status()", x.status(), n == 58 ? 8 : 0);
            ok("would(0, 1)", x.would(0, 1), n == 58 ? 0 : 1);
            ok("it stays", x.now(0), n + 2);
        }
        loads(COUNT.replace("eq C(D)=C(E);", "eq C(D)=C(A);"), 4);
        for (int n = 56; n <= 58; n++) {
            terms(count(n), n + 2);
            no("would(1, 0)", x.would(1, 0), n == 58 ? 8 : 7);
            ok("would(1, 1)", x.would(1, 1), 0);
            no("period() is of reduce() alone", x.period(), 5);
        }
        loads(SWAP, 3);
        terms("K(" + swap(4) + "," + tower(19) + ")", 34);
        no("would(0, 0)", x.would(0, 0), 6);
        terms("K(" + swap(5) + "," + tower(18) + ")", 33);
        no("would(0, 0)", x.would(0, 0), 8);
        ok("would(1, 0)", x.would(1, 0), 1);
        ok("by one way it doesn't END", x.would(1, 1), 0);
        ok("it stays", x.now(0), 33);
    }

    private static void promise21TheSameByBoth() {
        begin(21, "1: 1 if by both ways it ENDS and is the same, 2 if it ENDS by both and isn't, 0 else");
        loads("con A 0;con B 0;con S 1;open F 1;open D 1;open L 1;open N 2;eq F(S(x))=A;eq F(x)=B;eq D(x)=S(x);"
            + "eq L(x)=L(x);eq N(x,y)=x;", 5);
        String[] texts = {"x", "F(D(A))", "D(D(A))", "L(A)", "N(A,L(A))", "F(L(A))", "F(S(D(A)))"};
        int[] due = {1, 2, 1, 0, 0, 0, 1};
        for (int i = 0; i < due.length; i++) {
            term(texts[i]);
            for (int way = 0; way <= 1; way++) {
                ok("would(" + way + ", 1) of " + texts[i], x.would(way, 1), due[i]);
            }
            printed(texts[i]);
        }
    }

    /** Back at the start behind 2 n + 2 STEPS, or one more where V comes between. */
    private static void round(int n, boolean more, int status) {
        loads("con A 0;con S 1;open R 2;open Q 2;open V 1;eq R(S(x),y)=R(x,S(y));eq R(A,y)=Q(A,y);eq Q(x,S(y))=Q(S(x),y);"
            + (more ? "eq Q(x,A)=V(x);eq V(x)=R(x,A);" : "eq Q(x,A)=R(x,A);"), more ? 5 : 4);
        term("R(" + tower(n) + ",A)");
        no("period() since load()", x.period(), 5);
        no("reduce(0)", x.reduce(0), status);
        if (status == 7) {
            ok("period()", x.period(), 2 * n + (more ? 3 : 2));
            printed("R(" + tower(n) + ",A)");
        } else {
            no("period()", x.period(), 5);
        }
    }

    private static void promise22Period() {
        begin(22, "STEPS from the first time that it was so to the second one");
        no("period() ahead of any", x.period(), 5);
        round(28, false, 7);
        round(28, true, 7);
        round(29, false, 7);
        round(29, true, 8);
        round(30, false, 8);
        round(0, false, 7);
        round(0, true, 7);
        loads("open L 1;eq L(x)=L(x);", 1);
        terms("L(x)", 2);
        no("reduce(1)", x.reduce(1), 7);
        ok("period()", x.period(), 1);
    }

    private static void promise22LatestReduce() {
        begin(22, "of the latest reduce() with STATUS 7 (5: none since load())");
        loads("con A 0;con S 1;open L 1;open M 1;open G 1;eq L(x)=L(x);eq M(A)=M(S(A));eq M(S(x))=M(x);eq G(x)=S(G(x));", 4);
        terms("M(A)", 2);
        no("would(0, 0)", x.would(0, 0), 7);
        no("period()", x.period(), 5);
        no("reduce(0)", x.reduce(0), 7);
        ok("period()", x.period(), 2);
        terms("L(x)", 2);
        no("would(0, 0)", x.would(0, 0), 7);
        ok("period() stays", x.period(), 2);
        no("reduce(0)", x.reduce(0), 7);
        ok("period()", x.period(), 1);
        terms("G(A)", 2);
        no("reduce(0)", x.reduce(0), 6);
        ok("period() stays", x.period(), 1);
        no("reduce(2)", x.reduce(2), 1);
        terms("A", 1);
        ok("reduce(0)", x.reduce(0), 0);
        ok("period() stays", x.period(), 1);
        badLoad("eq", 2, 2);
        ok("period() stays", x.period(), 1);
        no("load(1)", x.load(1), 1);
        ok("period() stays", x.period(), 1);
        loads("", 0);
        no("period()", x.period(), 5);
    }

    private static void promise23LongestPrint() {
        begin(23, "how many bytes (3)");
        no("print() without a TERM", x.print(), 3);
        loads("con Aaaaaa 0;con Zzzzzz 3;", 0);
        terms("x", 1);
        printed("x");
        terms("abcdef", 1);
        printed("abcdef");
        StringBuilder b = new StringBuilder();
        for (int i = 0; i < 19; i++) {
            b.append("Zzzzzz(zzzzzz,").append((char) ('a' + i % 9)).append("bbbbb,");
        }
        String whole = b + "Aaaaaa" + times(")", 19);
        terms(whole, 58);
        printed(whole);
        String most = b.toString().replaceFirst("zzzzzz,", "Zzzzzz(x,y,Aaaaaa),") + "x" + times(")", 19);
        termFault(6, most.substring(0, most.length() - 20) + "^" + most.substring(most.length() - 20));
        printed(whole);
        wants("want ?a=Zzzzzz(?b,abcdef,Aaaaaa);", 0);
        out("unknown(0)", x.unknown(0), "Zzzzzz(?b,abcdef,Aaaaaa)");
        printed(whole);
    }

    private static void promise24Out() {
        begin(24, "(1: below 0; 5: OUT has not so many, or there is none yet)");
        for (int i : new int[] {LEAST, -2, -1}) {
            no("out(" + i + ") ahead of any", x.out(i), 1);
        }
        for (int i : new int[] {0, 1, MOST}) {
            no("out(" + i + ") ahead of any", x.out(i), 5);
        }
        loads("con A 0;con Ab 0;open F 1;eq F(Ab)=Ab;", 1);
        terms("F(Ab)", 2);
        no("out(0) ahead of print()", x.out(0), 5);
        ok("print()", x.print(), 5);
        for (int i = 0; i < 5; i++) {
            ok("out(" + i + ")", x.out(i), "F(Ab)".charAt(i));
        }
        for (int i : new int[] {5, 6, 1023, 1024, MOST}) {
            no("out(" + i + ")", x.out(i), 5);
        }
        for (int i : new int[] {LEAST, -1}) {
            no("out(" + i + ")", x.out(i), 1);
        }
        terms("A", 1);
        ok("OUT stays till print()", x.out(4), ')');
        ok("print()", x.print(), 1);
        ok("out(0)", x.out(0), 'A');
        no("a shorter OUT", x.out(1), 5);
        ok("ends(0, 0, 0)", x.ends(0, 0, 0), 2);
        ok("out(1)", x.out(1), 'b');
        wants("want ?a=F(A);want A=Ab;", 1);
        ok("want() leaves OUT", x.out(1), 'b');
        no("unknown(1)", x.unknown(1), 2);
        ok("a call with another STATUS leaves OUT", x.out(1), 'b');
        ok("unknown(0)", x.unknown(0), 4);
        ok("out(3)", x.out(3), ')');
    }

    public static void main(String[] args) {
        runAll(TermBoundaryTest.class);
    }
}
