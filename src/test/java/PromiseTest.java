/** For each promise of the document calls whose answers are known: ordinary ones, edges, wrong ones. */
public final class PromiseTest extends Calls {
    private static void newObject() {
        begin(1);
        is("status()", x.status(), 0);
        ok("many(0)", x.many(0), 0);
        ok("many(1)", x.many(1), 0);
        ok("many(2)", x.many(2), 0);
        no("now(0)", x.now(0), 3);
        no("print()", x.print(), 3);
        no("wanted(0)", x.wanted(0), 5);
        is("NONE", FamilyReducer.NONE, -1);
    }

    private static void statuses() {
        begin(2);
        no("many(-1)", x.many(-1), 1);
        x.feed(0, 0, 0, 0, 0);
        is("status() behind feed()", x.status(), 1);
        x.fault(0);
        is("status() behind fault()", x.status(), 1);
        is("status() behind status()", x.status(), 1);
        ok("many(0)", x.many(0), 0);
        no("step(-1)", x.step(-1), 1);
        no("step(0)", x.step(0), 3);
    }

    private static void tape() {
        begin(3);
        for (int i = 1; i <= 45; i++) {
            is("feed", x.feed(0x20202020, 0x20202020, 0x20202020, 0x20202020, 0x20202020), 20 * i);
        }
        is("feed beyond 900", x.feed(0, 0, 0, 0, 0), -1);
        no("load(901)", x.load(901), 1);
        ok("load(900)", x.load(900), 0);
        is("feed", x.feed(0, 0, 0, 0, 0), 20);
        begin(3);
        x.feed(0x636f6e20, 0x41203b20, 0xff636f6e, 0x20202020, 0x20202020);
        faulty("load(20)", x.load(20), 2, 6);
        x.feed(0x636f6e20, 0x4120303b, 0xff636f6e, 0x20202020, 0x20202020);
        faulty("load(20)", x.load(20), 1, 8);
    }

    private static void loads() {
        begin(4);
        feed("con A 0;");
        no("load(-1)", x.load(-1), 1);
        no("load(21)", x.load(21), 1);
        is("fault(0) behind STATUS 1", x.fault(0), -1);
        ok("load(8)", x.load(8), 0);
        no("load(1) of an empty tape", x.load(1), 1);
        ok("load", load("con A 0;con S 1;\nopen F 1 back;closed G 2;eq F(S(x))=x;eq G(x,x)=A;eq F(A)=A;"), 3);
        term("F(A)");
        want("want F(x)=A;");
        badLoad("con B", 2, 5);
        ok("many(0) stays", x.many(0), 2);
        ok("now(0) stays", x.now(0), 2);
        ok("wanted(0) stays", x.wanted(0), 1);
        no("load(1): the tape is empty behind a FAULT", x.load(1), 1);
        ok("load(0)", x.load(0), 0);
        no("now(0)", x.now(0), 3);
        no("wanted(0)", x.wanted(0), 5);
        ok("many(0)", x.many(0), 0);
        ok("only n bytes", x.load(feed("con A 0;con B 0;") - 8), 0);
        ok("many(0)", x.many(0), 1);
        faulty("n amid a row of digits", x.load(feed("con A 12;") - 2), 2, 7);
        ok("n amid a row of letters", x.load(feed("con A 0;open F 1;eq F(x)=x;open G 1 backx") - 1 - 32), 0);
        faulty("n amid a row of letters", x.load(feed("con Abcdefg 0;") - 4), 2, 10);
        ok("no blanks", load("con A0;con Abcdef3;open F1back;eq F(abcdef)=F(F(abcdef));"), 1);
        ok("blanks", load(" con\nA 0 ; \n open F 1 ; eq F ( x ) = x ; \n"), 1);
    }

    private static void tokensAndLines() {
        begin(5);
        is("fault(0) ahead of any", x.fault(0), -1);
        is("fault(1) ahead of any", x.fault(1), -1);
        load("con A 0;");
        is("fault(0)", x.fault(0), 0);
        is("fault(1)", x.fault(1), -1);
        is("fault(2)", x.fault(2), -1);
        is("fault(-1)", x.fault(-1), -1);
        badLoad("con Abcdefg 0;", 1, 4);
        badLoad("con ABc 0;", 1, 4);
        badLoad("con AbC 0;", 1, 4);
        badLoad("aB A 0;", 1, 0);
        badLoad("closedx A 1;", 1, 0);
        badLoad("con A 10;", 1, 6);
        badLoad("con A #;", 1, 6);
        badLoad("con A 0;\t", 1, 8);
        badLoad("con con 0;", 2, 4);
        badLoad("con A A;", 2, 6);
        badLoad("con A 0 back;", 2, 8);
        badLoad("con A 0", 2, 7);
        badLoad("con A 0  ", 2, 9);
        badLoad("A", 2, 0);
        badLoad("given", 2, 0);
        badLoad("x", 2, 0);
        badLoad("open F 1 eq;", 2, 9);
        badLoad("open F 1 back back;", 2, 14);
        badLoad("con A 0;con A 1;", 4, 12);
        badLoad("con A 0;closed A 1;", 4, 15);
        badLoad("open F 1;con F 1;", 4, 13);
        badLoad("con A 4;", 5, 6);
        badLoad("open A 0;", 5, 7);
        badLoad("closed A 9;", 5, 9);
        String cons = "con A 0;con B 0;con C 0;con D 0;con E 0;con F 0;con G 0;con H 0;";
        ok("eight CONSTRUCTORS", load(cons), 0);
        badLoad(cons + " con I 0;", 6, 65);
        badLoad(cons + "con", 6, 64);
        String fams = "open P 1;open Q 1;closed R 1;open S 1;open T 1;";
        ok("five FAMILIES", load(fams), 0);
        badLoad(fams + "closed U 1;", 6, 47);
        ok("sixteen EQUATIONS", load("open P 1;" + times("eq P(x)=x;", 16)), 16);
        badLoad("open P 1;" + times("eq P(x)=x;", 17), 6, 169);
    }

    private static void termFaults() {
        begin(5);
        String told = "con A 0;con P 2;open F 1;open G 2;"; // 34 bytes
        badLoad(told + "eq X(x)=x;", 3, 37);
        badLoad(told + "eq F(X)=x;", 3, 39);
        badLoad(told + "eq F(x)=y;", 3, 42);
        badLoad(told + "eq F(x)=X;", 3, 42);
        badLoad(told + "eq F(con)=x;", 2, 39);
        badLoad(told + "eq F(want)=x;", 2, 39);
        badLoad(told + "eq F(x)=back;", 2, 42);
        badLoad(told + "eq F(?x)=A;", 2, 39);
        badLoad(told + "eq F()=A;", 2, 39);
        badLoad(told + "eq F(x(A))=A;", 2, 40);
        badLoad(told + "eq F(x)(x)=A;", 2, 41);
        badLoad(told + "eq F(x=A;", 2, 40);
        badLoad(told + "eq F(x)A;", 2, 41);
        badLoad(told + "eq F(x)=A eq", 2, 44);
        badLoad(told + "eq F(x)=A", 2, 43);
        badLoad(told + "eq F(x)=P A;", 2, 44);
        badLoad(told + "eq F(x)=P=", 2, 43);
        badLoad(told + "eq F(x)=P", 2, 43);
        badLoad(told + "eq F;", 2, 38);
        badLoad(told + "eq F(x)=P(A=", 2, 45);
        badLoad(told + "eq F(P;", 2, 40);
        badLoad(told + "eq F=A;", 5, 38);
        badLoad(told + "eq F(A(x))=A;", 5, 40);
        badLoad(told + "eq F(P)=A;", 5, 40);
        badLoad(told + "eq F(P,x)=A;", 5, 40);
        badLoad(told + "eq F(P(x))=A;", 5, 42);
        badLoad(told + "eq F(P(x,x,x))=A;", 5, 44);
        badLoad(told + "eq F(x,x)=A;", 5, 40);
        badLoad(told + "eq G(x)=A;", 5, 40);
        badLoad(told + "eq F(x)=A(x);", 5, 43);
        badLoad(told + "eq F(x)=P;", 5, 43);
        badLoad(told + "eq F(x)=F;", 5, 43);
        badLoad(told + "eq A=A;", 7, 37);
        badLoad(told + "eq x=A;", 7, 37);
        badLoad(told + "eq P(x,x)=A;", 7, 37);
        badLoad(told + "eq F(F(x))=A;", 7, 39);
        badLoad(told + "eq F(P(A,F(x)))=A;", 7, 43);
        String six = "eq F(P(a,P(b,P(c,P(d,P(e,f))))))=";
        ok("six VARIABLES", load(told + six + "a;"), 1);
        badLoad(told + "eq F(P(a,P(b,P(c,P(d,P(e,P(f,g)))))))=a;", 6, 63);
        String rights = "P(x,P(x,P(x,P(x,P(x,P(x,P(x,";
        ok("15 NODES", load(told + "eq F(x)=" + rights + "x)))))));"), 1);
        ok("16 NODES", load(told + "eq F(x)=" + rights + "F(x))))))));"), 1);
        badLoad(told + "eq F(x)=" + rights + "F(F(x)))))))));", 6, 42 + rights.length() + 4);
        badLoad(told + "eq F(x)=" + rights + "F(F(y)))))))));", 3, 42 + rights.length() + 4);
        badLoad(told + "eq F(" + rights + "x)))))),F(", 5, 39 + rights.length() + 7);
        ok("16 NODES on the left", load(told + "eq F(" + rights + "x))))))))=A;"), 1);
        badLoad(told + "eq G(" + rights + "x))))))),F(", 6, 39 + rights.length() + 9);
    }

    private static void wholeTermFaults() {
        begin(5);
        load("con A 0;con P 2;open F 1;");
        badTerm("", 2, 0);
        badTerm("  ", 2, 2);
        badTerm("X", 3, 0);
        badTerm("?x", 2, 0);
        badTerm("eq", 2, 0);
        badTerm("A A", 2, 2);
        badTerm("A;", 2, 1);
        badTerm("x(A)", 2, 1);
        badTerm("A(x)", 5, 1);
        badTerm("P(A)", 5, 3);
        badTerm("P(A,A,A)", 5, 5);
        badTerm("P(F,A)", 5, 3);
        badTerm("P(A", 2, 3);
        badTerm("P;", 2, 1);
        badTerm("F(12)", 1, 2);
        // The end is no sign that ends a TERM.
        badTerm("P", 2, 1);
        badTerm("P ", 2, 2);
        String many = "P(a,P(b,P(c,P(d,P(e,P(f,P(g,P(h,P(i,P(j,P(k,";
        ok("twelve VARIABLES", term(many + "l" + times(")", 11)), 23);
        badTerm(many + "P(l,m" + times(")", 12), 6, many.length() + 4);
        ok("60 NODES", term(times("F(", 59) + "A" + times(")", 59)), 60);
        badTerm(times("F(", 60) + "A" + times(")", 60), 6, 120);
    }

    private static void wantFaults() {
        begin(5);
        load("con A 0;con P 2;open F 1;");
        badWant("A", 2, 0);
        badWant("eq F(x)=A;", 2, 0);
        badWant("want A=A", 2, 8);
        badWant("want A;", 2, 6);
        badWant("want P=A;", 5, 6);
        badWant("want A=P;", 5, 8);
        badWant("want A=P(A);", 5, 10);
        badWant("want ?=A;", 2, 6);
        badWant("want ??a=A;", 2, 6);
        badWant("want ?A=A;", 2, 6);
        badWant("want ?abcdefg=A;", 1, 6);
        badWant("want ?a(A)=A;", 2, 7);
        badWant("want want=A;", 2, 5);
        badWant("want X=A;", 3, 5);
        badWant("given A=A;", 7, 6);
        badWant("given x=A;", 7, 6);
        badWant("given ?x=A;", 7, 6);
        badWant("given F(?x)=A;", 7, 8);
        badWant("given F(x)=?x;", 7, 11);
        badWant("given F(x)=F(?);", 7, 13);
        ok("a FAMILY in a GIVEN's ARGUMENTS, a VARIABLE on its right alone", want("given F(F(x))=y;"), 0);
        ok("any WORD is an UNKNOWN", want("want ?want=? given;want ?eq=?con;"), 0);
        ok("six GIVEN", want(times("given F(x)=x;", 6)), 0);
        badWant(times("given F(x)=x;", 7), 6, 78);
        ok("eight WANTED", want(times("want x=x;", 8)), 0);
        badWant(times("want x=x;", 9), 6, 72);
        ok("six UNKNOWNS", want("want ?a=?b;want ?c=?d;want ?e=?f;"), 0);
        badWant("want ?a=?b;want ?c=?d;want ?e=P(?f,?g);", 6, 36);
        String full = times("F(", 29);
        ok("30 NODES", want("want " + full + "A" + times(")", 29) + "=A;"), 1);
        badWant("want " + full + "F(A", 6, 65);
        badWant("want " + full + "F(?a", 6, 65);
        badWant("want " + full + "F(?", 6, 65);
        badWant("given F(" + full + "?a", 6, 66);
        badWant("given " + full + "?a", 7, 64);
        ok("many VARIABLES", want("want P(P(a,b),P(P(c,d),P(e,P(f,P(g,P(h,P(i,P(j,P(k,P(l,P(m,n)))))))))))=F(o);"), 1);
    }

    private static void manies() {
        begin(6);
        load("con A 0;con B 0;con C 0;open F 1;closed G 1;eq F(x)=x;");
        ok("many(0)", x.many(0), 3);
        ok("many(1)", x.many(1), 2);
        ok("many(2)", x.many(2), 1);
        no("many(3)", x.many(3), 1);
        no("many(-1)", x.many(-1), 1);
    }

    private static void families() {
        begin(7);
        load("con A 0;con S 1;open F 3 back;closed G 1;closed H 2 back;open K 1;"
            + "eq F(x,y,z)=S(G(x));eq G(x)=H(x,K(x));eq H(x,y)=S(H(x,A));eq H(x,A)=A;");
        int[][] due = {{3, 0, 1, 1, 2, 14, 1, 0}, {1, 1, 0, 1, 12, 12, 1, 0}, {2, 1, 1, 2, 4, 4, 0, 0},
            {1, 0, 0, 0, 0, 0, 1, 0}};
        for (int f = 0; f < 4; f++) {
            for (int what = 0; what < 8; what++) {
                ok("family(" + f + ", " + what + ")", x.family(f, what), due[f][what]);
            }
        }
        no("family(0, 8)", x.family(0, 8), 1);
        no("family(9, -1)", x.family(9, -1), 1);
        no("family(4, 0)", x.family(4, 0), 2);
        no("family(-1, 0)", x.family(-1, 0), 2);
        load("con S 1;open F 1 back;open G 1;eq F(x)=S(x);eq G(x)=S(x);");
        ok("family(0, 7)", x.family(0, 7), 1);
        ok("family(1, 7): not told back", x.family(1, 7), 0);
    }

    private static void equations() {
        begin(8);
        load("con A 0;con S 1;con P 2;open F 1;open G 2;eq F(A)=A;eq G(x,y)=P(F(x),y);eq F(S(x))=F(F(x));"
            + "eq G(x,A)=F(P(x,A));eq G(x,S(A))=F(P(x,x));eq G(S(S(x)),y)=P(F(P(x,x)),F(A));eq G(A,x)=G(F(x),x);"
            + "eq G(S(x),A)=P(F(x),x);");
        int[][] due = {{0, 0, 0, 2, 1, 0}, {1, 0, 2, 3, 4, 0}, {0, 1, 1, 3, 3, 1}, {1, 1, 1, 3, 4, 2},
            {1, 2, 1, 4, 4, 2}, {1, 3, 2, 5, 7, 3}, {1, 4, 1, 3, 4, 1}, {1, 5, 1, 4, 4, 0}};
        for (int e = 0; e < 8; e++) {
            for (int what = 0; what < 6; what++) {
                ok("equation(" + e + ", " + what + ")", x.equation(e, what), due[e][what]);
            }
        }
        no("equation(0, 6)", x.equation(0, 6), 1);
        no("equation(0, -1)", x.equation(0, -1), 1);
        no("equation(8, 0)", x.equation(8, 0), 2);
        no("equation(-1, 0)", x.equation(-1, 0), 2);
    }

    private static final String PAIRS = "con A 0;con B 0;con S 1;con P 2;closed E 2;open F 2;"
        + "eq E(x,x)=A;eq E(y,S(y))=B;eq E(x,y)=B;eq E(S(x),S(y))=E(x,y);eq F(A,x)=x;eq F(x,A)=x;eq F(B,x)=S(x);"
        + "eq F(P(x,y),P(z,S(z)))=P(z,x);eq F(P(x,x),y)=y;";

    private static void meetings() {
        begin(9);
        load(PAIRS);
        ok("meets(0, 1): a circle", x.meets(0, 1), 2);
        ok("meets(1, 0)", x.meets(1, 0), 2);
        ok("meets(0, 2)", x.meets(0, 2), 1);
        ok("meets(0, 3)", x.meets(0, 3), 1);
        ok("meets(1, 3)", x.meets(1, 3), 1);
        ok("meets(1, 1)", x.meets(1, 1), 1);
        ok("meets(4, 5)", x.meets(4, 5), 1);
        ok("meets(4, 6)", x.meets(4, 6), 0);
        ok("meets(0, 4): two FAMILIES", x.meets(0, 4), 0);
        no("meets(0, 9)", x.meets(0, 9), 2);
        no("meets(-1, 0)", x.meets(-1, 0), 2);
        load("con A 0;con S 1;con P 2;open F 3;eq F(x,x,A)=A;eq F(y,S(y),S(z))=A;eq F(x,P(x,x),x)=x;eq F(P(z,z),z,A)=A;");
        ok("APART goes ahead of a circle", x.meets(0, 1), 0);
        ok("APART with endless TERMS", x.meets(2, 3), 0);
    }

    private static void compatibles() {
        begin(10);
        load(PAIRS);
        ok("compatible(0, 1): a circle", x.compatible(0, 1), 0);
        ok("compatible(0, 2)", x.compatible(0, 2), 0);
        ok("compatible(1, 2)", x.compatible(1, 2), 1);
        ok("compatible(4, 5)", x.compatible(4, 5), 1);
        ok("compatible(5, 4)", x.compatible(5, 4), 1);
        ok("compatible(4, 6): APART", x.compatible(4, 6), 1);
        ok("compatible(5, 6)", x.compatible(5, 6), 0);
        ok("compatible(3, 3)", x.compatible(3, 3), 1);
        no("compatible(0, 4)", x.compatible(0, 4), 5);
        no("compatible(0, 9)", x.compatible(0, 9), 2);
        load("con A 0;open F 1;open G 1;eq F(x)=G(x);eq F(A)=G(A);eq G(A)=A;eq F(A)=A;");
        ok("as they are written", x.compatible(0, 1), 1);
        ok("nothing is reduced", x.compatible(1, 3), 0);
    }

    private static void endings() {
        begin(11);
        load(PAIRS);
        out("ends(0, 2, 0)", x.ends(0, 2, 0), "A");
        out("ends(1, 3, 1)", x.ends(1, 3, 1), "E(a,S(a))");
        out("ends(3, 1, 0)", x.ends(3, 1, 0), "E(a,S(a))");
        out("ends(7, 8, 0)", x.ends(7, 8, 0), "P(b,a)");
        out("ends(7, 8, 1)", x.ends(7, 8, 1), "P(b,S(b))");
        out("ends(7, 7, 1)", x.ends(7, 7, 1), "P(c,a)");
        out("ends(4, 5, 1)", x.ends(4, 5, 1), "A");
        no("ends(0, 1, 0): a circle", x.ends(0, 1, 0), 5);
        no("ends(4, 6, 0): APART", x.ends(4, 6, 0), 5);
        no("ends(0, 4, 0)", x.ends(0, 4, 0), 5);
        no("ends(0, 9, 0)", x.ends(0, 9, 0), 2);
        no("ends(9, 9, 2)", x.ends(9, 9, 2), 1);
        ok("OUT stays", x.out(0), 'A');
        no("OUT stays", x.out(1), 5);
        load("con D 3;con P 3;open F 3;eq F(a,D(b,b,b),P(b,D(c,c,c),c))=P(a,a,a);"
            + "eq F(D(p,p,p),p,P(D(q,q,q),q,D(z,z,z)))=q;");
        String one = "D(D(a,a,a),D(a,a,a),D(a,a,a))";
        String two = "D(" + one + "," + one + "," + one + ")";
        String three = "D(" + two + "," + two + "," + two + ")";
        String four = "D(" + three + "," + three + "," + three + ")";
        out("ends(0, 1, 0)", x.ends(0, 1, 0), "P(" + four + "," + four + "," + four + ")");
        out("ends(0, 1, 1)", x.ends(0, 1, 1), one);
    }

    private static void partings() {
        begin(12);
        load("con A 0;con B 0;open F 1;open G 1;open H 1;eq F(x)=A;eq G(A)=A;eq F(A)=A;eq G(B)=B;eq F(B)=B;eq F(A)=B;");
        ok("parts(0, 0)", x.parts(0, 0), 0);
        ok("parts(0, 1)", x.parts(0, 1), 4);
        no("parts(1, 0)", x.parts(1, 0), 5);
        no("parts(2, 0)", x.parts(2, 0), 5);
        no("parts(3, 0)", x.parts(3, 0), 2);
        no("parts(3, 2)", x.parts(3, 2), 1);
        no("parts(0, -1)", x.parts(0, -1), 1);
    }

    private static void badOnes() {
        begin(13);
        load("con A 0;con S 1;con P 2;open F 1;open G 1;open H 2;open K 1 back;open L 1;"
            + "eq F(x)=x;eq G(S(x))=x;eq H(A,x)=S(x);eq H(x,A)=K(x);eq K(x)=S(x);eq K(A)=S(A);eq L(x)=S(x);eq L(A)=A;");
        badIs(0, 0, 0, 0);
        badIs(1, 1, 1, -1);
        badIs(2, 2, 3, -1);
        badIs(3, 0, 0, 0);
        badIs(4, 0, 0, 0);
        ok("family(3, 7)", x.family(3, 7), 1);
        no("bad(5, 0)", x.bad(5, 0), 2);
        no("bad(0, 3)", x.bad(0, 3), 1);
        no("bad(0, -1)", x.bad(0, -1), 1);
        load("con A 0;con S 1;con P 2;open F 1;open G 2;open H 1;open K 1;open L 2;"
            + "eq F(x)=x;eq F(A)=A;eq G(x,y)=P(x,H(y));eq H(A)=S(A);eq H(x)=S(x);eq H(S(x))=S(x);"
            + "eq K(A)=P(A,H(A));eq K(S(x))=P(x,S(A));eq L(x,y)=P(S(x),y);eq L(A,A)=P(A,A);eq L(S(x),A)=x;");
        badIs(0, 1, 0, -1);
        badIs(1, 3, 2, -1);
        badIs(2, 4, 3, 5);
        badIs(3, 4, 6, 7);
        badIs(4, 1, 10, -1);
        load("con A 0;con S 1;con P 2;open F 1;open G 1;eq F(x)=P(x,x);eq F(S(x))=P(x,S(x));"
            + "eq G(A)=P(F(A),F(A));eq G(S(x))=P(x,S(x));");
        badIs(0, 0, 0, 0);
        badIs(1, 0, 0, 0);
        load("con A 0;con P 2;open F 1;open G 1;eq F(A)=P(G(A),A);eq F(P(x,y))=P(x,y);");
        badIs(0, 4, 0, 1);
    }

    private static final String LISTS = "con A 0;con S 1;con P 2;closed E 2;open F 1;open G 1;"
        + "eq E(a,a)=A;eq E(a,b)=S(A);eq F(S(x))=x;eq G(x)=P(G(x),x);";

    private static void terms() {
        begin(14);
        load(LISTS);
        ok("term", term("E(F(x),S(F(x)))"), 6);
        badTerm("E(", 2, 2);
        ok("it stays", x.now(0), 6);
        no("the tape is empty", x.term(1), 1);
        feed("A");
        no("term(-1)", x.term(-1), 1);
        no("term(21)", x.term(21), 1);
        ok("term(1)", x.term(1), 1);
        ok("term x", term(" x\n"), 1);
        is("fault(0)", x.fault(0), 0);
        is("fault(1)", x.fault(1), -1);
    }

    private static void nows() {
        begin(15);
        load(LISTS);
        no("now(0)", x.now(0), 3);
        no("now(4)", x.now(4), 1);
        term("P(E(F(S(x)),A),F(S(S(y))))");
        int[] due = {10, 5, 3, 2};
        for (int what = 0; what < 4; what++) {
            ok("now(" + what + ")", x.now(what), due[what]);
        }
        term("x");
        ok("now(1)", x.now(1), 1);
        no("now(-1)", x.now(-1), 1);
    }

    private static void nodes() {
        begin(16);
        load(LISTS);
        no("node(0, 5)", x.node(0, 5), 1);
        no("node(0, 0)", x.node(0, 0), 3);
        term("P(y,E(P(x,A),S(y)))");
        int[][] due = {{1, 2, 8, -1, 0}, {0, 0, 1, -1, 1}, {2, 0, 6, 1, 1}, {1, 2, 3, -1, 2}, {0, 1, 1, -1, 3},
            {1, 0, 1, -1, 3}, {1, 1, 2, -1, 2}, {0, 0, 1, -1, 3}};
        for (int k = 0; k < 8; k++) {
            for (int what = 0; what < 5; what++) {
                ok("node(" + k + ", " + what + ")", x.node(k, what), due[k][what]);
            }
        }
        no("node(8, 0)", x.node(8, 0), 2);
        no("node(-1, 0)", x.node(-1, 0), 2);
        no("node(0, -1)", x.node(0, -1), 1);
        term("P(F(S(b)),a)");
        term("P(F(S(P(A,b))),F(S(a)))");
        x.reduce(0);
        printed("P(P(A,b),a)");
        ok("b is the first as it was told", x.node(3, 1), 0);
        term("E(P(a,b),E(b,a))");
        term("F(S(b))");
        ok("node(2, 1)", x.node(2, 1), 0);
    }

    private static void whys() {
        begin(17);
        load(LISTS);
        no("why(0, 0)", x.why(0, 0), 3);
        term("P(E(F(x),F(x)),E(F(x),S(F(x))))");
        ok("a CONSTRUCTOR", x.why(0, 0), 1);
        ok("another FAMILY", x.why(1, 2), 1);
        ok("it FIRES", x.why(1, 0), 0);
        ok("an earlier one may still", x.why(1, 1), 3);
        ok("it doesn't FIT", x.why(6, 0), 2);
        ok("a circle is not APART", x.why(6, 1), 3);
        ok("it doesn't FIT", x.why(7, 2), 2);
        ok("a VARIABLE", x.why(8, 2), 1);
        no("why(12, 0)", x.why(12, 0), 2);
        no("why(0, 4)", x.why(0, 4), 2);
        no("why(-1, 0)", x.why(-1, 0), 2);
        no("why(0, -1)", x.why(0, -1), 2);
        term("E(P(F(x),A),P(F(x),S(A)))");
        ok("APART", x.why(0, 1), 0);
        term("E(P(F(x),F(y)),P(A,S(A)))");
        ok("FAMILIES may become anything", x.why(0, 1), 3);
        term("E(P(F(x),F(x)),P(A,S(A)))");
        ok("but the same one the same", x.why(0, 1), 0);
        term("E(P(F(x),F(F(x))),P(A,S(A)))");
        ok("what is in another one doesn't count", x.why(0, 1), 3);
        load("con A 0;con B 0;open F 1;eq F(A)=A;eq F(x)=B;closed G 1;eq G(A)=A;eq G(x)=x;");
        term("F(A)");
        ok("an earlier one, but it, too, could", x.why(0, 1), 0);
        term("G(x)");
        ok("COMPATIBLE", x.why(0, 3), 0);
    }

    private static void stills() {
        begin(18);
        load("con A 0;con B 0;con C 0;closed F 2;eq F(A,x)=A;eq F(x,B)=B;eq F(B,x)=x;eq F(x,y)=C;");
        no("still(0, 0)", x.still(0, 0), 3);
        term("F(x,y)");
        ok("still(0, 3)", x.still(0, 3), 0);
        no("still(0, 2): it doesn't FIT", x.still(0, 2), 5);
        no("still(1, 2)", x.still(1, 2), 5);
        no("still(3, 0)", x.still(3, 0), 2);
        no("still(0, 4)", x.still(0, 4), 2);
        term("F(C,y)");
        ok("still(0, 3)", x.still(0, 3), 1);
        term("F(B,A)");
        ok("still(0, 3)", x.still(0, 3), 2);
        no("still(0, 2)", x.still(0, 2), 5);
        term("F(C,A)");
        no("still(0, 3): it FIRES", x.still(0, 3), 5);
        term("F(x,B)");
        ok("still(0, 1)", x.still(0, 1), 0);
    }

    private static void steps() {
        begin(19);
        load(LISTS);
        no("step(2)", x.step(2), 1);
        no("step(0)", x.step(0), 3);
        term("E(F(S(A)),E(F(S(A)),F(S(A))))");
        ok("step(1)", x.step(1), 2);
        printed("E(A,E(F(S(A)),F(S(A))))");
        ok("step(1)", x.step(1), 0);
        printed("E(A,A)");
        term("E(F(S(A)),E(F(S(A)),F(S(A))))");
        ok("step(0)", x.step(0), 2);
        ok("step(0)", x.step(0), 2);
        printed("E(A,E(A,F(S(A))))");
        ok("step(0)", x.step(0), 2);
        ok("step(0)", x.step(0), 0);
        ok("step(0)", x.step(0), 0);
        printed("A");
        no("step(0)", x.step(0), 5);
        no("step(-1)", x.step(-1), 1);
        term("G(" + tower(56) + ")");
        no("step(0): 58 NODES would be 117", x.step(0), 6);
        ok("now(0)", x.now(0), 58);
        load("con A 0;con S 1;open F 1;open G 1;eq F(x)=S(G(x));eq G(x)=x;");
        term("F(" + tower(57) + ")");
        ok("60 NODES can be", x.step(1), 0);
        ok("now(0)", x.now(0), 60);
        term("F(G(" + tower(57) + "))");
        no("61 can't", x.step(1), 6);
        ok("from within", x.step(0), 1);
    }

    private static void reductions() {
        begin(20);
        load("con A 0;con S 1;open R 2;eq R(S(x),y)=R(x,S(y));eq R(A,S(y))=R(y,A);open L 1;eq L(x)=L(x);"
            + "open M 1;open N 1;eq M(x)=N(x);eq N(S(x))=M(x);eq N(A)=M(S(S(A)));open G 1;eq G(x)=S(G(x));");
        no("reduce(2)", x.reduce(2), 1);
        no("reduce(0)", x.reduce(0), 3);
        term("R(" + tower(5) + "," + tower(5) + ")");
        ok("just 60 STEPS", x.reduce(0), 60);
        printed("R(A,A)");
        term("R(" + tower(6) + "," + tower(4) + ")");
        no("one more", x.reduce(1), 8);
        printed("R(A,S(A))");
        ok("the rest", x.reduce(1), 1);
        ok("none", x.reduce(0), 0);
        term("L(x)");
        no("it COMES BACK", x.reduce(0), 7);
        printed("L(x)");
        term("M(" + tower(5) + ")");
        no("it COMES BACK", x.reduce(1), 7);
        printed("M(S(S(A)))");
        term("G(A)");
        no("GREAT", x.reduce(0), 6);
        ok("now(0)", x.now(0), 60);
        no("GREAT", x.reduce(0), 6);
        no("reduce(-1)", x.reduce(-1), 1);
    }

    private static void woulds() {
        begin(21);
        load("con A 0;con S 1;open F 1;open D 1;open L 1;eq F(S(x))=x;eq D(x)=A;eq L(x)=L(S(x));");
        no("no TERM", x.would(0, 0), 3);
        no("would(2, 0)", x.would(2, 0), 1);
        no("would(0, 2)", x.would(0, 2), 1);
        load("con A 0;con B 0;con S 1;open F 1;open D 1;open L 1;eq F(S(x))=x;eq D(x)=A;eq L(x)=L(S(x));"
            + "open K 1;eq K(x)=K(x);open T 1;eq T(S(x))=A;eq T(x)=B;");
        term("D(F(S(A)))");
        ok("would(0, 0)", x.would(0, 0), 2);
        ok("would(1, 0)", x.would(1, 0), 1);
        ok("would(0, 1)", x.would(0, 1), 1);
        printed("D(F(S(A)))");
        term("T(F(S(S(A))))");
        ok("both END and are not the same", x.would(1, 1), 2);
        term("D(L(A))");
        no("would(0, 0)", x.would(0, 0), 6);
        ok("would(1, 0)", x.would(1, 0), 1);
        ok("would(1, 1)", x.would(1, 1), 0);
        term("D(K(A))");
        no("would(0, 0)", x.would(0, 0), 7);
        no("period(): would() isn't reduce()", x.period(), 5);
        no("would(-1, 1)", x.would(-1, 1), 1);
        ok("it stays", x.now(0), 3);
    }

    private static void periods() {
        begin(22);
        no("period()", x.period(), 5);
        load("con A 0;con S 1;open M 1;open N 1;eq M(x)=N(x);eq N(S(x))=M(x);eq N(A)=M(S(S(A)));open L 1;eq L(x)=L(x);");
        term("M(" + tower(5) + ")");
        no("reduce(0)", x.reduce(0), 7);
        ok("period()", x.period(), 6);
        term("L(A)");
        ok("period()", x.period(), 6);
        no("reduce(0)", x.reduce(0), 7);
        ok("period()", x.period(), 1);
        term("A");
        x.reduce(0);
        ok("period()", x.period(), 1);
        badLoad("con", 2, 3);
        ok("period()", x.period(), 1);
        load("");
        no("period()", x.period(), 5);
    }

    private static void prints() {
        begin(23);
        load("con Abcdef 0;con P 2;open Zz 3;");
        no("print()", x.print(), 3);
        term(" Zz ( P(abcdef ,Abcdef) , z , P(zz, a) ) ");
        printed("Zz(P(abcdef,Abcdef),z,P(zz,a))");
        term("Abcdef");
        printed("Abcdef");
        begin(24);
        no("out(0)", x.out(0), 5);
        no("out(-1)", x.out(-1), 1);
        load("con Ab 0;");
        term("Ab");
        x.print();
        ok("out(0)", x.out(0), 'A');
        ok("out(1)", x.out(1), 'b');
        no("out(2)", x.out(2), 5);
        no("out(-1)", x.out(-1), 1);
        load("");
        no("print()", x.print(), 3);
        ok("OUT stays", x.out(1), 'b');
    }

    private static final String SOLVE = "con A 0;con B 0;con S 1;con P 2;open F 1 back;open G 1;open K 1;open N 1 back;"
        + "eq F(A)=A;eq F(S(x))=S(x);eq G(S(x))=x;eq K(x)=S(K(x));eq N(x)=N(x);";

    private static void wants() {
        begin(25);
        load(SOLVE);
        no("want(1)", x.want(1), 1);
        no("want(-1)", x.want(-1), 1);
        ok("nothing", x.want(0), 0);
        wantedIs(0, 0, -1, 1, 0, 0);
        ok("the same", want("want S(x)=S(x);"), 0);
        wantedIs(0, 0, -1, 2, 0, 0);
        ok("reduced", want("want G(S(A))=A;"), 0);
        wantedIs(0, 0, -1, 2, 0, 0);
        ok("WRONG stays", want("want x=x;want A=B;want x=x;"), 2);
        wantedIs(2, 1, 1, 1, 0, 0);
        badWant("want", 2, 4);
        wantedIs(2, 1, 1, 1, 0, 0);
        ok("a VARIABLE against another one", want("want x=y;"), 1);
        wantedIs(1, 1, 0, 1, 0, 0);
        ok("a VARIABLE against a CONSTRUCTOR", want("want A=A;want A=x;"), 1);
        wantedIs(1, 1, 1, 1, 0, 0);
        ok("ARGUMENTS come", want("want P(A,P(x,x))=P(A,P(x,y));"), 1);
        wantedIs(1, 1, 0, 3, 0, 0);
        ok("a FAMILY stays", want("want G(x)=A;want G(x)=G(y);want F(x)=G(x);"), 3);
        wantedIs(3, 0, -1, 1, 0, 0);
        ok("an UNKNOWN in itself", want("want P(?a,A)=?a;"), 1);
        wantedIs(1, 2, 0, 1, 1, 0);
        ok("in itself in a FAMILY and outside", want("want ?a=P(G(?a),?a);"), 1);
        wantedIs(1, 2, 0, 1, 1, 0);
        ok("in itself in a FAMILY alone", want("want S(G(?a))=?a;want A=A;"), 1);
        wantedIs(1, 0, -1, 2, 1, 0);
        ok("used backwards", want("want F(?a)=F(?b);want ?b=A;"), 0);
        wantedIs(0, 0, -1, 3, 2, 3);
        ok("used backwards, wrong", want("want F(x)=F(y);"), 1);
        wantedIs(1, 1, 0, 2, 0, 0);
        ok("it COMES BACK", want("want N(x)=A;"), 1);
        wantedIs(1, 3, 0, 1, 0, 0);
        ok("it is GREAT", want("want A=A;want A=K(x);"), 1);
        wantedIs(1, 3, 1, 1, 0, 0);
        ok("WRONG 3 goes ahead", want("want K(x)=K(x);"), 1);
        wantedIs(1, 3, 0, 1, 0, 0);
    }

    private static void wantsByGivens() {
        begin(25);
        load(SOLVE);
        ok("a GIVEN", want("given F(c)=A;want F(c)=A;want F(d)=A;"), 1);
        wantedIs(1, 0, -1, 2, 0, 0);
        ok("ahead of any EQUATION", want("given F(A)=B;want F(A)=B;"), 0);
        ok("the first that does", want("given F(A)=B;given F(A)=S(B);want F(A)=B;"), 0);
        ok("as it is written", want("given G(F(A))=B;want G(F(A))=B;"), 1);
        wantedIs(1, 0, -1, 1, 0, 0);
        ok("a GIVEN that comes back", want("given G(x)=G(y);given G(y)=G(x);want G(x)=A;"), 1);
        wantedIs(1, 3, 0, 1, 0, 0);
        ok("a GIVEN is GREAT", want("given G(x)=P(G(x),G(x));want ?a=G(x);"), 1);
        wantedIs(1, 3, 0, 1, 1, 0);
        ok("by what UNKNOWNS are", want("given G(x)=A;want G(?a)=A;want ?a=x;"), 0);
        wantedIs(0, 0, -1, 3, 1, 1);
        ok("GIVEN are those of the latest want()", want("want G(x)=A;"), 1);
        term("G(x)");
        ok("and not of THE TERM", x.now(3), 0);
        ok("UNKNOWNS count as VARIABLES", load("con A 0;con B 0;closed E 2;eq E(x,x)=A;eq E(x,y)=B;"), 2);
        ok("UNKNOWNS count as VARIABLES", want("want E(?a,A)=B;"), 1);
        ok("till they are something", want("want E(?a,A)=B;want ?a=B;"), 0);
    }

    private static void longLists() {
        begin(25);
        load("con A 0;con B 0;con T 3;open F 1;open G 1;open M 1;eq G(x)=T(F(x),F(x),F(x));"
            + "eq M(x)=T(T(G(x),G(x),G(x)),G(x),F(x));");
        ok("104 would be left", want(times("want M(A)=M(B);", 8)), 100);
        wantedIs(100, 3, 7, 3, 0, 0);
        ok("91 are left", want(times("want M(A)=M(B);", 7)), 91);
        wantedIs(91, 0, -1, 4, 0, 0);
        ok("97 are left", want(times("want M(A)=M(B);", 7) + "want T(G(A),G(A),A)=T(G(B),G(B),A);"), 97);
        load("con A 0;con S 1;open F 1;eq F(S(x))=F(x);");
        ok("20 ROUNDS", want("want " + tower(19) + "=" + times("S(", 19) + "?a" + times(")", 19) + ";"), 0);
        wantedIs(0, 0, -1, 20, 1, 1);
        ok("20 ROUNDS", want("want " + tower(20) + "=" + times("S(", 20) + "?a" + times(")", 20) + ";"), 1);
        wantedIs(1, 0, -1, 20, 1, 0);
        ok("WRONG in the 20th", want("want " + tower(19) + "=" + times("S(", 19) + "b" + times(")", 19) + ";"), 1);
        wantedIs(1, 1, 0, 20, 0, 0);
    }

    private static void wanteds() {
        begin(26);
        no("wanted(0)", x.wanted(0), 5);
        no("wanted(6)", x.wanted(6), 1);
        no("wanted(-1)", x.wanted(-1), 1);
        load(SOLVE);
        want("want ?c=?a;want ?b=?b;want ?a=S(?b);want ?d=A;");
        wantedIs(0, 0, -1, 2, 4, 11);
        load("");
        no("wanted(0)", x.wanted(0), 5);
    }

    private static void unknowns() {
        begin(27);
        no("unknown(0)", x.unknown(0), 2);
        load(SOLVE);
        want("want ?c=?a;want ?b=?b;want ?a=S(P(?b,abcdef));want ?abcdef=G(x);");
        out("unknown(0)", x.unknown(0), "S(P(?b,abcdef))");
        out("unknown(1)", x.unknown(1), "S(P(?b,abcdef))");
        no("unknown(2)", x.unknown(2), 5);
        out("unknown(3)", x.unknown(3), "G(x)");
        no("unknown(4)", x.unknown(4), 2);
        no("unknown(-1)", x.unknown(-1), 2);
        ok("OUT stays", x.out(0), 'G');
        want("want ?a=?want;");
        out("unknown(0)", x.unknown(0), "?want");
        want("want ?a=P(?b,P(?b,?b));want ?b=P(?c,P(?c,?c));want ?c=P(?d,P(?d,?d));want ?d=P(A,P(A,A));");
        no("unknown(0): 161 NODES", x.unknown(0), 6);
        ok("unknown(1): 53 NODES", x.unknown(1), 131);
        ok("unknown(2)", x.unknown(2), 41);
        out("unknown(3)", x.unknown(3), "P(A,P(A,A))");
        load("");
        no("unknown(0)", x.unknown(0), 2);
    }

    public static void main(String[] args) {
        newObject();
        statuses();
        tape();
        loads();
        tokensAndLines();
        termFaults();
        wholeTermFaults();
        wantFaults();
        manies();
        families();
        equations();
        meetings();
        compatibles();
        endings();
        partings();
        badOnes();
        terms();
        nows();
        nodes();
        whys();
        stills();
        steps();
        reductions();
        woulds();
        periods();
        prints();
        wants();
        wantsByGivens();
        longLists();
        wanteds();
        unknowns();
        tellAll();
    }
}
