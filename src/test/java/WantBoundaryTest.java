/**
 * The edges of WANTED: the list, ROUNDS, UNKNOWNS, what is WRONG. Each method is named by its promise and
 * stands for one sentence: at the edge, one before it, one behind it.
 */
public final class WantBoundaryTest extends Calls {
    private static final String SOME = "con A 0;con B 0;con S 1;con P 2;con T 3;open F 1 back;open G 1;";
    /** R(S^5(A),S^5(A)) ends behind 60 STEPS at R(A,A); one S from right to left is a STEP more. */
    private static final String SWAP = "con A 0;con B 0;con S 1;open R 2;open L 1;eq R(S(x),y)=R(x,S(y));"
        + "eq R(A,S(y))=R(y,A);eq L(x)=L(x);";

    private static String swap(int left) {
        return "R(" + tower(left) + "," + tower(10 - left) + ")";
    }

    private static void solved(String text, int left, int kind, int of, int rounds) {
        wants(text, left);
        ok("wanted(0) of " + text, x.wanted(0), left);
        ok("wanted(1) of " + text, x.wanted(1), kind);
        ok("wanted(2) of " + text, x.wanted(2), of);
        ok("wanted(3) of " + text, x.wanted(3), rounds);
    }

    private static void promise25NothingWanted() {
        begin(25, "ROUNDS are done till one changes nothing (none goes, comes; that one is counted, too)");
        loads(SOME, 0);
        solved("", 0, 0, -1, 1);
        solved("given F(x)=A;", 0, 0, -1, 1);
        solved("want G(x)=A;", 1, 0, -1, 1);
        solved("want x=x;", 0, 0, -1, 2);
        solved("want S(x)=S(x);", 0, 0, -1, 2);
        solved("want ?a=x;", 0, 0, -1, 2);
        solved("want G(?a)=A;want ?a=A;", 1, 0, -1, 2);
        solved("want S(?a)=S(A);", 0, 0, -1, 3);
        solved("given G(A)=B;want G(G(A))=B;", 1, 0, -1, 1);
    }

    private static void promise25TwentyRounds() {
        begin(25, "or 20 are done");
        loads(SOME, 0);
        for (int n = 16; n <= 20; n++) {
            String text = "want " + tower(n) + "=" + tower(n, "?a") + ";";
            solved(text, n == 20 ? 1 : 0, 0, -1, Math.min(n + 2, 20));
            ok("wanted(5)", x.wanted(5), n == 20 ? 0 : 1);
        }
        begin(25, "till one is WRONG (there all stops)");
        loads(SOME, 0);
        solved("want " + tower(18) + "=" + tower(18, "x") + ";", 1, 1, 0, 19);
        solved("want " + tower(19) + "=" + tower(19, "x") + ";", 1, 1, 0, 20);
        solved("want " + tower(20) + "=" + tower(20, "x") + ";", 1, 0, -1, 20);
        solved("want A=B;", 1, 1, 0, 1);
        solved("want x=x;want y=y;want A=B;want x=x;want ?a=A;", 3, 1, 2, 1);
        ok("those behind it are as they were", x.wanted(5), 0);
        solved("want ?a=A;want A=B;want ?b=B;", 2, 1, 1, 1);
        ok("those ahead of it are done", x.wanted(5), 1);
    }

    private static void promise25AsWhenTheRoundBegins() {
        begin(25, "each of the list, as it is when the ROUND begins, from the first on");
        loads(SOME, 0);
        solved("want S(?a)=S(A);want G(?a)=G(A);", 0, 0, -1, 4);
        solved("want G(?a)=G(A);want S(?a)=S(A);", 0, 0, -1, 4);
        solved("want ?a=A;want G(?a)=G(A);", 0, 0, -1, 2);
        solved("want G(?a)=G(A);want ?a=A;", 0, 0, -1, 3);
        solved("want P(S(A),A)=P(S(B),B);", 2, 1, 0, 2);
        solved("want S(A)=S(B);want A=B;", 2, 1, 1, 1);
    }

    private static void promise25TheSame() {
        begin(25, "by the first of these that holds: the two are the same: it goes");
        loads(SOME, 0);
        solved("want ?a=?a;", 0, 0, -1, 2);
        ok("?a is nothing", x.wanted(5), 0);
        solved("want G(?a)=G(?a);", 0, 0, -1, 2);
        solved("want S(G(x))=S(G(x));", 0, 0, -1, 2);
        solved("want S(G(x))=S(G(y));", 1, 0, -1, 2);
        begin(25, "One is an UNKNOWN (the left one, else the right one)");
        loads(SOME, 0);
        wants("want ?a=?b;", 0);
        ok("the left one is the right one", x.wanted(5), 1);
        wants("want A=?b;", 0);
        ok("else the right one", x.wanted(5), 1);
        wants("want G(?c)=?b;", 0);
        ok("else the right one", x.wanted(5), 2);
        out("unknown(1)", x.unknown(1), "G(?c)");
    }

    private static void promise25UnknownInItself() {
        begin(25, "nowhere in the other one; in it outside of all FAMILIES: WRONG (2); else it stays");
        loads(SOME, 0);
        solved("want ?a=S(?b);", 0, 0, -1, 2);
        solved("want ?a=S(?a);", 1, 2, 0, 1);
        solved("want S(?a)=?a;", 1, 2, 0, 1);
        solved("want ?a=G(?a);", 1, 0, -1, 1);
        solved("want G(?a)=?a;", 1, 0, -1, 1);
        solved("want ?a=S(G(?a));", 1, 0, -1, 1);
        solved("want ?a=S(G(S(?a)));", 1, 0, -1, 1);
        solved("want ?a=P(G(?a),?a);", 1, 2, 0, 1);
        solved("want ?a=P(?a,G(?a));", 1, 2, 0, 1);
        solved("want ?a=P(G(?a),?b);", 1, 0, -1, 1);
        solved("want ?a=S(?b);want ?b=S(?a);", 1, 2, 1, 1);
        solved("want ?a=S(?b);want ?b=G(?a);", 1, 0, -1, 2);
        solved("want ?a=S(?b);want ?b=S(a);", 0, 0, -1, 2);
    }

    private static void promise25Constructors() {
        begin(25, "Both are CONSTRUCTORS: of one NAME: it goes, its ARGUMENTS' EQUALITIES come; else WRONG (1)");
        loads(SOME, 0);
        solved("want S(x)=P(x,x);", 1, 1, 0, 1);
        solved("want T(A,A,G(x))=T(A,A,A);", 1, 0, -1, 3);
        solved("want T(A,A,B)=T(A,A,A);", 1, 1, 0, 2);
        solved("want T(A,B,B)=T(A,A,A);", 2, 1, 0, 2);
        solved("want T(B,B,B)=T(A,A,A);", 3, 1, 0, 2);
        begin(25, "Both are of one FAMILY that CAN BE USED BACKWARDS: likewise");
        loads(SOME + "open H 1 back;eq H(A)=B;eq H(B)=B;", 2);
        solved("want F(x)=F(y);", 1, 1, 0, 2);
        solved("want F(?a)=F(A);", 0, 0, -1, 3);
        solved("want G(x)=G(y);", 1, 0, -1, 1);
        solved("want H(x)=H(y);", 1, 0, -1, 1);
        solved("want F(x)=G(x);", 1, 0, -1, 1);
        begin(25, "One is a FAMILY: it stays. Else (a VARIABLE against another one, or a CONSTRUCTOR): WRONG (1)");
        loads(SOME, 0);
        solved("want F(x)=x;", 1, 0, -1, 1);
        solved("want x=F(x);", 1, 0, -1, 1);
        solved("want A=F(x);", 1, 0, -1, 1);
        solved("want x=A;", 1, 1, 0, 1);
        solved("want A=x;", 1, 1, 0, 1);
        solved("want x=y;", 1, 1, 0, 1);
        solved("want S(x)=x;", 1, 1, 0, 1);
    }

    private static void promise25GreatWithUnknowns() {
        begin(25, "GREAT (of more than 60 NODES with what UNKNOWNS are)");
        loads(SOME, 0);
        String first = "want ?a=" + tower(28) + ";";
        for (int side = 0; side < 2; side++) {
            for (int more = 0; more <= 2; more++) {
                String one = tower(more, "P(?a,?a)");
                String text = first + "want " + (side == 0 ? "?b=" + one : one + "=?b") + ";";
                solved(text, more == 2 ? 1 : 0, more == 2 ? 3 : 0, more == 2 ? 1 : -1, more == 2 ? 1 : 2);
                ok("wanted(5)", x.wanted(5), more == 2 ? 1 : 3);
            }
        }
        solved(first + "want S(S(P(?a,?a)))=S(S(P(?a,?a)));", 1, 3, 1, 1);
        solved(first + "want S(P(?a,?a))=S(P(?a,?a));", 0, 0, -1, 2);
        solved("want ?b=S(S(P(?a,?a)));" + first, 0, 0, -1, 2);
        solved("want ?b=S(S(P(?a,?a)));" + first + "want ?b=x;", 1, 3, 2, 1);
        solved("want ?b=S(P(?a,?a));" + first + "want ?b=x;", 1, 1, 2, 1);
    }

    private static void promise25GreatByAStep() {
        begin(25, "GREAT (or by a STEP)");
        loads(SOME + "open D 1;open E 1;open I 1;eq D(x)=P(x,x);eq E(x)=S(P(x,x));eq I(x)=S(S(P(x,x)));", 3);
        String text = "want %s(" + tower(28) + ")=?a;";
        solved(String.format(text, "D"), 0, 0, -1, 2);
        solved(String.format(text, "E"), 0, 0, -1, 2);
        ok("60 NODES", x.unknown(0), 1 + 1 + 2 + 1 + 1 + 2 * (28 * 3 + 1) + 1);
        solved(String.format(text, "I"), 1, 3, 0, 1);
        solved("want A=A;want ?a=I(" + tower(28) + ");", 1, 3, 1, 1);
        String given = "given G(x)=P(" + tower(26) + ",G(y));given G(y)=" + tower(29) + ";want ";
        solved(given + "S(G(x))=?b;", 0, 0, -1, 2);
        solved(given + "S(S(G(x)))=?b;", 0, 0, -1, 2);
        out("60 NODES", x.unknown(0), "S(S(P(" + tower(26) + "," + tower(29) + ")))");
        solved(given + "S(S(S(G(x))))=?b;", 1, 3, 0, 1);
    }

    private static void promise25EndsInSixtySteps() {
        begin(25, "One of which a side doesn't END: WRONG (3), ahead of all these");
        loads(SWAP, 3);
        for (int left = 4; left <= 6; left++) {
            solved("want " + swap(left) + "=R(A,A);", left == 6 ? 1 : 0, left == 6 ? 3 : 0, left == 6 ? 0 : -1, left == 6 ? 1 : 2);
            solved("want R(A,A)=" + swap(left) + ";", left == 6 ? 1 : 0, left == 6 ? 3 : 0, left == 6 ? 0 : -1, left == 6 ? 1 : 2);
        }
        solved("want " + swap(5) + "=" + swap(5) + ";", 0, 0, -1, 2);
        solved("want " + swap(6) + "=" + swap(6) + ";", 1, 3, 0, 1);
        solved("want A=A;want L(x)=L(x);", 1, 3, 1, 1);
        solved("want L(?a)=?a;", 1, 3, 0, 1);
        begin(25, "a STEP here is also by a GIVEN");
        loads(SWAP, 3);
        solved("given R(A,A)=B;want " + swap(4) + "=B;", 0, 0, -1, 2);
        solved("given R(A,A)=B;want " + swap(5) + "=B;", 1, 3, 0, 1);
        solved("given R(A,A)=R(A,A);want " + swap(5) + "=B;", 1, 3, 0, 1);
        solved("given R(A,A)=R(S(A),A);want R(A,A)=B;", 1, 3, 0, 1);
    }

    private static void promise25FromWithin() {
        begin(25, "then REDUCED (way 0)");
        // From without K(L(x)) is A; from within L comes back, so the side doesn't END.
        loads("con A 0;con B 0;open K 1;open L 1;open C 1;eq K(x)=A;eq L(x)=L(x);"
            + "eq C(A)=B;", 3);
        solved("want K(L(x))=A;", 1, 3, 0, 1);
        solved("want A=K(L(x));", 1, 3, 0, 1);
        solved("want K(C(x))=A;", 0, 0, -1, 2);
        solved("want A=K(C(x));", 0, 0, -1, 2);
        begin(25, "of all places that which is first, for a GIVEN, too");
        loads(SOME, 0);
        for (String sides : new String[] {"G(F(x))=B", "B=G(F(x))", "G(F(x))=G(A)", "G(A)=G(F(x))"}) {
            boolean within = sides.contains("G(A)");
            solved("given G(F(x))=B;given F(x)=A;want " + sides + ";", within ? 0 : 1, 0, -1, within ? 2 : 1);
        }
    }

    private static void promise25ChainOfSix() {
        begin(25, "both sides with what UNKNOWNS are for these");
        loads(SOME, 0);
        String chain = "want ?a=S(?b);want ?b=S(?c);want ?c=S(?d);want ?d=S(?e);want ?e=S(?f);want ?f=S(A);";
        solved(chain + "want ?a=S(S(S(S(S(S(A))))));want S(S(S(S(S(S(A))))))=?a;", 0, 0, -1, 2);
        for (int k = 0; k < 6; k++) {
            out("unknown(" + k + ")", x.unknown(k), tower(6 - k));
        }
        solved(chain + "want G(?a)=G(S(S(S(S(S(S(A)))))));want G(?a)=G(S(S(S(S(S(A))))));", 1, 0, -1, 2);
        solved(chain.replace("S(A)", "x") + "want G(P(?a,?b))=G(P(S(S(S(S(S(x))))),S(S(S(S(x))))));", 0, 0, -1, 2);
        solved("want ?f=S(A);want ?e=S(?f);want ?d=S(?e);want ?c=S(?d);want ?b=S(?c);want ?a=S(?b);"
            + "want ?a=S(S(S(S(S(S(A))))));", 0, 0, -1, 2);
        out("unknown(5)", x.unknown(5), tower(6));
    }

    private static void promise25ByGiven() {
        begin(25, "where its left side is just what stands there, as it is written; a GIVEN ahead of any EQUATION");
        loads(SOME + "closed H 1;eq H(A)=A;eq H(x)=B;", 2);
        solved("given H(A)=B;want H(A)=B;", 0, 0, -1, 2);
        solved("given H(A)=B;given H(A)=S(A);want H(A)=B;", 0, 0, -1, 2);
        solved("given H(y)=B;want H(x)=B;", 1, 0, -1, 1);
        solved("given H(x)=B;want H(x)=B;", 0, 0, -1, 2);
        solved("given H(x)=B;want H(?x)=B;", 1, 0, -1, 1);
        solved("given H(x)=B;want H(?x)=B;want ?x=x;", 0, 0, -1, 3);
        solved("given G(H(A))=B;want G(H(A))=B;", 1, 0, -1, 1);
        solved("given G(H(x))=B;want G(H(x))=B;", 0, 0, -1, 2);
        solved("given G(H(x))=B;given H(x)=A;want G(H(x))=B;", 1, 0, -1, 1);
        begin(25, "GIVEN of this text alone");
        loads(SOME, 0);
        String five = times("given F(x)=A;", 5);
        solved(five + "given G(x)=A;want G(x)=A;", 0, 0, -1, 2);
        solved(five + "want G(x)=A;", 1, 0, -1, 1);
        solved("want F(x)=A;", 1, 0, -1, 1);
        terms("F(x)", 2);
        ok("THE TERM has none", x.reduce(0), 0);
        begin(25, "UNKNOWNS count as VARIABLES where it is asked what is APART");
        loads(SOME + "closed H 1;eq H(A)=A;eq H(x)=B;", 2);
        solved("want H(?a)=B;", 1, 0, -1, 1);
        solved("want H(S(?a))=B;", 0, 0, -1, 2);
        solved("want H(?a)=B;want ?a=B;", 0, 0, -1, 3);
        solved("want H(?a)=B;want ?a=A;", 1, 1, 0, 2);
    }

    /** 8 WANTED that make a list of so many that stay, and one more: that comes apart alone, in ROUND 7. */
    private static String list(int stay, String last) {
        String[] few = {"G(x)", "P(G(x),G(x))", "T(G(x),G(x),G(x))", "T(G(x),G(x),P(G(x),G(x)))", "T(G(x),T(G(x),G(x),G(x)),G(x))"};
        String left = "T(K(x)," + few[stay - 95] + "," + tower(5, last) + ")";
        return times("want M(x)=M(y);", 7) + "want " + left + "=" + left.replace("x", "y") + ";";
    }

    private static void promise25ListOf100() {
        begin(25, "one whose ARGUMENTS would make the list (it, too) longer than 100 (those that have come by then stay)");
        loads("con P 2;con S 1;con T 3;open G 1;open K 1;open M 1;eq K(x)=T(G(x),G(x),G(x));"
            + "eq M(x)=T(T(K(x),K(x),K(x)),K(x),G(x));", 2);
        String three = "T(G(x),G(x),G(x))";
        String two = "P(G(x),G(x))";
        String one = "S(G(x))";
        solved(list(95, three), 98, 0, -1, 8);
        solved(list(96, three), 99, 0, -1, 8);
        solved(list(97, three), 100, 3, 7, 7);
        solved(list(98, three), 100, 3, 7, 7);
        solved(list(96, two), 98, 0, -1, 8);
        solved(list(97, two), 99, 0, -1, 8);
        solved(list(98, two), 100, 3, 7, 7);
        solved(list(97, one), 98, 0, -1, 8);
        solved(list(98, one), 99, 0, -1, 8);
        solved(list(98, "T(G(x),G(x),S(x))"), 100, 3, 7, 7);
    }

    private static void promise26What() {
        begin(26, "(1; 5: nothing since load()); STATUS tells NONE from -1");
        for (int what : outside(5)) {
            no("wanted(" + what + ") ahead of any", x.wanted(what), 1);
        }
        for (int what = 0; what <= 5; what++) {
            no("wanted(" + what + ") ahead of any", x.wanted(what), 5);
        }
        loads(SOME, 0);
        wants("want ?a=?b;want ?c=?d;want ?e=?f;", 0);
        wantedIs(0, 0, -1, 2, 6, 1 + 4 + 16);
        wants("want ?a=A;want ?b=A;want ?c=A;want ?d=A;want ?e=A;want ?f=A;", 0);
        wantedIs(0, 0, -1, 2, 6, 63);
        wants("want ?f=?f;want A=?a;", 0);
        wantedIs(0, 0, -1, 2, 2, 2);
        for (int what : outside(5)) {
            no("wanted(" + what + ")", x.wanted(what), 1);
        }
        wants("", 0);
        wantedIs(0, 0, -1, 1, 0, 0);
        wants("want A=B;", 1);
        badWant("wont", 2, 0);
        wantedIs(1, 1, 0, 1, 0, 0);
        badLoad("wont", 2, 0);
        wantedIs(1, 1, 0, 1, 0, 0);
        loads("", 0);
        for (int what = 0; what <= 5; what++) {
            no("wanted(" + what + ") behind load()", x.wanted(what), 5);
        }
        no("wanted(6) behind load()", x.wanted(6), 1);
    }

    private static void promise26WhichOfWanted() {
        begin(26, "2: which of WANTED that came of (NONE)");
        loads(SOME, 0);
        for (int k = 0; k < 8; k++) {
            solved(times("want G(x)=x;", k) + "want A=B;" + times("want G(x)=x;", 7 - k), 8, 1, k, 1);
            solved(times("want A=A;", k) + "want S(A)=S(B);" + times("want G(x)=x;", 7 - k), 8 - k, 1, k, 2);
        }
        solved("given G(x)=A;want S(G(x))=S(A);want P(S(A),P(A,S(S(x))))=P(S(A),P(A,S(S(y))));", 1, 1, 1, 5);
    }

    private static void promise27WhichUnknown() {
        begin(27, "(2; 5: nothing as yet; 6: of more than 60 NODES)");
        for (int k : new int[] {LEAST, -1, 0, 5, MOST}) {
            no("unknown(" + k + ") ahead of any", x.unknown(k), 2);
        }
        loads(SOME, 0);
        wants("want ?a=A;want ?b=?c;want ?d=?d;want ?e=G(?e);want ?f=S(A);", 1);
        for (int k : outside(5)) {
            no("unknown(" + k + ")", x.unknown(k), 2);
        }
        out("unknown(0)", x.unknown(0), "A");
        out("unknown(1)", x.unknown(1), "?c");
        for (int k = 2; k <= 4; k++) {
            no("unknown(" + k + ")", x.unknown(k), 5);
            ok("OUT stays", x.out(1), 'c');
        }
        out("unknown(5)", x.unknown(5), "S(A)");
        wants("want ?a=A;", 0);
        no("unknown(1) is of an earlier want()", x.unknown(1), 2);
        loads("", 0);
        no("unknown(0) behind load()", x.unknown(0), 2);
    }

    private static void promise27SixtyNodes() {
        begin(27, "6: of more than 60 NODES");
        loads(SOME, 0);
        for (int more = 0; more <= 2; more++) {
            wants("want ?b=" + tower(more, "P(?a,?a)") + ";want ?a=" + tower(28) + ";", 0);
            wantedIs(0, 0, -1, 2, 2, 3);
            if (more == 2) {
                no("unknown(0)", x.unknown(0), 6);
                ok("OUT stays", x.out(1), '(');
            } else {
                out("unknown(0)", x.unknown(0), tower(more, "P(" + tower(28) + "," + tower(28) + ")"));
            }
            out("unknown(1)", x.unknown(1), tower(28));
        }
        wants("want ?b=S(S(P(?a,?a)));want ?a=" + tower(28, "?c") + ";", 0);
        no("UNKNOWNS are NODES", x.unknown(0), 6);
        wants("want ?b=S(P(?a,?a));want ?a=" + tower(28, "?c") + ";", 0);
        ok("UNKNOWNS are NODES", x.unknown(0), 2 + 2 + 2 * (28 * 3 + 2) + 1 + 1 + 1);
    }

    private static void promise27WithWhatUnknownsAre() {
        begin(27, "UNKNOWNS in it with their ? and WORD; VARIABLES by their WORDS; no blanks");
        loads(SOME, 0);
        wants("want ?a = P ( ?b , abcdef ) ;want ? b=P(?c,?c);want ?c=S(?d);want ?d=G(?e);want ?e=?zzzzzz;", 0);
        out("unknown(0)", x.unknown(0), "P(P(S(G(?zzzzzz)),S(G(?zzzzzz))),abcdef)");
        out("unknown(2)", x.unknown(2), "S(G(?zzzzzz))");
        out("unknown(4)", x.unknown(4), "?zzzzzz");
        no("unknown(5)", x.unknown(5), 5);
        wants("want ?con=P(?want,a);want ?want=?given;", 0);
        out("unknown(0)", x.unknown(0), "P(?given,a)");
        wants("want ?a=a;", 0);
        out("unknown(0)", x.unknown(0), "a");
    }

    public static void main(String[] args) {
        runAll(WantBoundaryTest.class);
    }
}
