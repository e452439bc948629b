/**
 * The edges of texts: the tape, TOKENS, LINES, what may be at most, FAULTS and their places. Each method
 * is named by its promise and stands for one sentence: at the edge, one before it, one behind it.
 */
public final class TextBoundaryTest extends Calls {
    /** CONSTRUCTORS with 0 to 3 ARGUMENTS, FAMILIES with 1 to 3. */
    private static final String ALL = "con A 0;con S 1;con P 2;con T 3;open F 1;open G 2;open H 3;";
    private static final int BLANKS = 0x20202020;

    private static String lines(String word, char first, int n, String rest) {
        StringBuilder b = new StringBuilder();
        for (int i = 0; i < n; i++) {
            b.append(word).append(' ').append((char) (first + i)).append(rest);
        }
        return b.toString();
    }

    private static void promise03TapeOf900() {
        begin(3, "NONE if there would be more than 900");
        is("feed 1", x.feed(0x636f6e20, 0x4120303b, BLANKS, BLANKS, BLANKS), 20);
        for (int i = 2; i <= 44; i++) {
            is("feed " + i, x.feed(BLANKS, BLANKS, BLANKS, BLANKS, BLANKS), 20 * i);
        }
        is("feed 45", x.feed(BLANKS, BLANKS, BLANKS, BLANKS, 0x2020203b), 900);
        is("feed 46", x.feed(0, 0, 0, 0, 0), -1);
        is("feed 47", x.feed(0, 0, 0, 0, 0), -1);
        no("load(901)", x.load(901), 1);
        faulty("load(900): nothing was put over its bytes", x.load(900), 2, 899);
        is("feed of an empty tape", x.feed(0, 0, 0, 0, 0), 20);
    }

    private static void promise03HighestByteFirst() {
        begin(3, "the highest of each int first");
        x.feed(0x636f6e20, 0x4120333b, 0x636f6e20, 0x4220323b, 0x636f6e20);
        x.feed(0x4320313b, 0x636f6e20, 0x4420303b, 0x80202020, BLANKS);
        ok("load(32)", x.load(32), 0);
        ok("many(0)", x.many(0), 4);
        for (int high : new int[] {0x7f, 0x80, 0xff}) {
            x.feed(BLANKS, BLANKS, BLANKS, BLANKS, 0x20202000 | high);
            faulty("byte " + high, x.load(20), 1, 19);
            x.feed(high << 24 | 0x202020, BLANKS, BLANKS, BLANKS, BLANKS);
            faulty("byte " + high, x.load(20), 1, 0);
        }
    }

    private static void promise04HowManyBytes() {
        begin(4, "n below 0, above what the tape has: the tape stays; else it is empty then");
        for (int n : outside(0)) {
            no("load(" + n + ") of an empty tape", x.load(n), 1);
        }
        ok("load(0) of an empty tape", x.load(0), 0);
        feed("con A 0;con B 0;con C 0;con D 0;con E 0;");
        for (int n : outside(40)) {
            no("load(" + n + ")", x.load(n), 1);
        }
        is("the tape stays", x.feed(BLANKS, BLANKS, BLANKS, BLANKS, BLANKS), 60);
        for (int n : outside(60)) {
            no("load(" + n + ")", x.load(n), 1);
        }
        ok("load(60)", x.load(60), 0);
        ok("many(0)", x.many(0), 5);
        is("the tape is empty", x.feed(BLANKS, BLANKS, BLANKS, BLANKS, BLANKS), 20);
        ok("load(0)", x.load(0), 0);
        ok("many(0)", x.many(0), 0);
        no("the tape is empty: load(1)", x.load(1), 1);
        feed("con A 0;con B 0;con C 0;con D 0;con E 0;");
        ok("load(32) is less than it has", x.load(32), 0);
        ok("many(0)", x.many(0), 4);
        no("the tape is empty: load(1)", x.load(1), 1);
        feed("con A 0;con B 0;con C 0;con D 0;con E 0;");
        faulty("load(39)", x.load(39), 2, 39);
        is("the tape is empty behind a FAULT", x.feed(BLANKS, BLANKS, BLANKS, BLANKS, BLANKS), 20);
    }

    private static void promise04TextOf900() {
        begin(4, "a TEXT of at most 900 bytes");
        for (int n : new int[] {899, 900}) {
            loads(times(" ", n - 8) + "con A 0;", 0);
            ok("many(0)", x.many(0), 1);
            badLoad(times("\n", n - 7) + "con A 0", 2, n);
            badLoad(times(" ", n - 1) + "#", 1, n - 1);
        }
        feed(times(" ", 892) + "con A 0;");
        faulty("load(899)", x.load(899), 2, 899);
        no("load of 901 bytes", load(times(" ", 893) + "con A 0;"), 1);
    }

    private static void promise04FaultLeavesAllElse() {
        begin(4, "9: all else stays");
        loads("con A 0;con S 1;open L 1;eq L(x)=L(x);", 1);
        terms("L(S(A))", 3);
        no("reduce", x.reduce(0), 7);
        wants("want ?a=S(A);want A=S(A);", 1);
        ok("print", x.print(), 7);
        badLoad("con B 0;open M 1;eq M(x)=x;con", 2, 30);
        ok("many(0)", x.many(0), 2);
        ok("many(1)", x.many(1), 1);
        ok("many(2)", x.many(2), 1);
        ok("equation(0, 4)", x.equation(0, 4), 2);
        ok("now(0)", x.now(0), 3);
        ok("node(0, 3)", x.node(0, 3), 0);
        ok("period()", x.period(), 1);
        wantedIs(1, 1, 1, 1, 1, 1);
        ok("out(6)", x.out(6), ')');
        no("out(7)", x.out(7), 5);
        out("unknown(0)", x.unknown(0), "S(A)");
        no("load(1)", x.load(1), 1);
        is("fault(0) behind STATUS 1", x.fault(0), 2);
        is("fault(1) behind STATUS 1", x.fault(1), 30);
        ok("now(0)", x.now(0), 3);
    }

    private static void promise04NoTermNothingWantedThen() {
        begin(4, "no TERM, nothing WANTED then");
        loads("con A 0;open L 1;eq L(x)=L(x);", 1);
        terms("L(A)", 2);
        no("reduce", x.reduce(0), 7);
        wants("want ?a=A;", 0);
        loads("con A 0;open L 1;eq L(x)=L(x);", 1);
        no("now(0)", x.now(0), 3);
        no("print()", x.print(), 3);
        no("wanted(0)", x.wanted(0), 5);
        no("unknown(0)", x.unknown(0), 2);
        no("period()", x.period(), 5);
    }

    private static void promise05AheadOfAny() {
        begin(5, "NONE for others, and ahead of any");
        is("fault(0)", x.fault(0), -1);
        is("fault(1)", x.fault(1), -1);
        no("load(1)", x.load(1), 1);
        no("term(1)", x.term(1), 1);
        no("want(1)", x.want(1), 1);
        is("fault(0) behind STATUS 1", x.fault(0), -1);
        is("fault(1) behind STATUS 1", x.fault(1), -1);
        ok("load(0)", x.load(0), 0);
        is("fault(0)", x.fault(0), 0);
        is("fault(1)", x.fault(1), -1);
        badLoad(" x", 2, 1);
        for (int what : outside(1)) {
            is("fault(" + what + ")", x.fault(what), -1);
        }
        no("many(9)", x.many(9), 1);
        is("fault(1) is of the latest text", x.fault(1), 1);
        is("status() behind fault()", x.status(), 1);
        terms("x", 1);
        is("fault(0) of term()", x.fault(0), 0);
        is("fault(1) of term()", x.fault(1), -1);
        badTerm("x y", 2, 2);
        wants("", 0);
        is("fault(0) of want()", x.fault(0), 0);
        is("fault(1) of want()", x.fault(1), -1);
        badWant("   want", 2, 7);
    }

    private static void promise05Blanks() {
        begin(5, "between them blanks (10, 32)");
        loads("\n con\nA\n0\n;\n \n", 0);
        ok("many(0)", x.many(0), 1);
        for (int c = 0; c < 256; c++) {
            boolean letter = c >= 'a' && c <= 'z' || c >= 'A' && c <= 'Z';
            boolean sign = ";(),=?".indexOf(c) >= 0;
            if (c == 10 || c == 32) {
                loads("con A 0;" + (char) c, 0);
            } else {
                badLoad("con A 0;" + (char) c, letter || sign || c >= '0' && c <= '9' ? 2 : 1, 8);
            }
        }
    }

    private static void promise05Names() {
        begin(5, "NAMES (a letter A .. Z and at most 5 letters a .. z behind it)");
        loads("con A 0;con Z 0;con Az 0;con Za 0;con Abcde 0;con Abcdef 0;con Zzzzzz 0;con Aaaaaa 0;", 0);
        ok("all are unlike", x.many(0), 8);
        loadFault(1, "con ^Abcdefg 0;");
        loadFault(1, "con ^AB 0;");
        loadFault(1, "con ^AbcdeF 0;");
        loadFault(1, "con ^Abcdefghijklmnopqrstuvwxyz 0;");
        loadFault(1, "con ^@ 0;");
        loadFault(1, "con ^[ 0;");
        loadFault(1, "con A^@ 0;");
        loadFault(1, "con A^` 0;");
        loadFault(1, "con A^{ 0;");
        loadFault(1, "con A^_ 0;");
        loadFault(1, "^conA 0;");
    }

    private static void promise05Words() {
        begin(5, "WORDS (1 to 6 letters a .. z)");
        loads("open F 1;eq F(a)=a;eq F(z)=z;eq F(abcde)=abcde;eq F(abcdef)=abcdef;eq F(zzzzzz)=zzzzzz;", 5);
        loadFault(1, "open F 1;eq F(^abcdefg)=a;");
        loadFault(1, "open F 1;eq F(^aB)=a;");
        loadFault(1, "open F 1;eq F(a)=^abcdefa;");
        loadFault(1, "^closedd F 1;");
        loadFault(2, "^close F 1;");
        loadFault(3, "open F 1;eq F(abcdef)=^abcdee;");
        loadFault(3, "open F 1;eq F(abcdef)=^bbcdef;");
        loadFault(3, "open F 1;eq F(abcdef)=^abcde;");
        loadFault(3, "open F 1;eq F(abcdef)=^bcdef;");
    }

    private static void promise05Digits() {
        begin(5, "more digits side by side than one are no TOKENS");
        loads("con A 0;con B 3;", 0);
        loadFault(1, "con A ^00;");
        loadFault(1, "con A ^000;");
        loadFault(1, "con A ^19;");
        loadFault(1, "con A ^/;");
        loadFault(1, "con A ^:;");
        loadFault(2, "con A 0 ^0;");
        loadFault(2, "con ^0 0;");
        loadFault(1, "con ^12 0;");
        faulty("cut to one digit", x.load(feed("con A 12;") - 2), 2, 7);
        faulty("cut to two", x.load(feed("con A 12;") - 1), 1, 6);
    }

    private static void promise05AsLongAsTheyGo() {
        begin(5, "TOKENS, as long as they go");
        loads("con A0;open F1back;closed G1;eq F(A)=A;eq G(x)=G(x);", 2);
        ok("family(0, 2)", x.family(0, 2), 1);
        loadFault(2, "con A0;open F1^backeq F(A)=A;");
        loadFault(1, "con A0;open F1^backeqx F(A)=A;");
        loadFault(2, "con A0^con B0;");
        loadFault(2, "con A0;open F1^Back;");
        faulty("a row of letters cut to a NAME", x.load(feed("con Abcdefg 0;") - 4), 2, 10);
        faulty("a row of letters that is cut too late", x.load(feed("con Abcdefg 0;") - 3), 1, 4);
        faulty("a WORD that is cut", x.load(feed("open F 1 back;") - 2), 2, 9);
    }

    private static void promise05EndOfText() {
        begin(5, "a TOKEN that can't stand there (at the end: the text's length)");
        String[] heads = {"con", "con A", "con A 0", "open", "open F", "open F 1", "open F 1 back", "closed",
            "closed F 1", "open F 1;eq", "open F 1;eq F", "open F 1;eq F(", "open F 1;eq F(x", "open F 1;eq F(x)",
            "open F 1;eq F(x)=", "open F 1;eq F(x)=x", "open F 1;eq F(x)=F", "open F 1;eq F(x)=F(x",
            "con A 0;open F 1;eq F(A", "con A 0;open F 1;eq F(A)=A"};
        for (String head : heads) {
            loadFault(2, head + "^");
            loadFault(2, head + " ^");
            loadFault(2, head + "\n  ^");
        }
        loads("", 0);
        loads("  ", 0);
    }

    private static void promise05LinesOfATell() {
        begin(5, "LINE: con NAME NUMBER ; or open NAME NUMBER [back] ;");
        loads("open F 1;", 0);
        ok("family(0, 2)", x.family(0, 2), 0);
        loads("closed F 1 back;", 0);
        ok("family(0, 2)", x.family(0, 2), 1);
        loadFault(2, "open F 1 back ^back;");
        loadFault(2, "con A 0 ^back;");
        loadFault(2, "open F 1 ^eq;");
        loadFault(2, "open F ^back;");
        loadFault(2, "con A ^;");
        loadFault(2, "con ^0;");
        loadFault(2, "con ^con 0;");
        loadFault(2, "con ^abc 0;");
        loadFault(2, "con A ^B;");
        loadFault(2, "con A 0;^;");
        loadFault(2, "con A 0^,con B 0;");
        for (String word : new String[] {"back", "given", "want", "x", "cons", "clos", "A", "0", "?", "(", ")", ",", "="}) {
            loadFault(2, "con A 0; ^" + word + " A 0;");
        }
    }

    private static void promise05WordsThatAreNoVariables() {
        begin(5, "VARIABLES are WORDS but con, open, closed, back, eq, given, want");
        for (String word : new String[] {"con", "open", "closed", "back", "eq", "given", "want"}) {
            loadFault(2, "open F 1;eq F(^" + word + ")=x;");
            loadFault(2, "open F 1;eq F(x)=^" + word + ";");
            loadFault(2, "open F 1;eq ^" + word + "=x;");
            termFault(2, "^" + word);
            wantFault(2, "want ^" + word + "=x;");
            wantFault(2, "want x=^" + word + ";");
        }
        for (String word : new String[] {"co", "cons", "ope", "opens", "close", "backs", "e", "eqs", "gives", "wan"}) {
            loads("open F 1;eq F(" + word + ")=" + word + ";", 1);
            terms(word, 1);
            wants("want " + word + "=" + word + ";", 0);
        }
    }

    private static void promise05NumbersOfArguments() {
        begin(5, "each with so many ARGUMENTS (0 to 3; FAMILIES 1 to 3)");
        for (int n = 0; n <= 9; n++) {
            for (String word : new String[] {"con", "open", "closed"}) {
                boolean con = word.equals("con");
                if (n <= 3 && (con || n >= 1)) {
                    loads(word + " F " + n + ";", 0);
                    ok("many", x.many(con ? 0 : 1), 1);
                    if (!con) {
                        ok("family(0, 0)", x.family(0, 0), n);
                    }
                } else {
                    loadFault(5, word + " F ^" + n + ";");
                    loadFault(5, word + " F ^" + n);
                }
            }
        }
    }

    private static void promise05JustAsManyArguments() {
        begin(5, "a NAME stands with just as many");
        for (String top : new String[] {"eq F(%s)=A;", "eq G(x,%s)=A;", "eq G(%s,x)=A;", "eq F(x)=%s;", "eq F(x)=S(%s);",
            "eq F(x)=P(%s,x);", "eq F(x)=G(x,%s);"}) {
            for (String good : new String[] {"A", "S(x)", "P(x,x)", "T(x,x,x)"}) {
                loads(ALL + String.format(top, good), 1);
            }
            for (String bad : new String[] {"A^(x)", "A^()", "S^", "S(x^,x)", "P^", "P(x^)", "P(x,x^,x)", "T^", "T(x^)",
                "T(x,x^)", "T(x,x,x^,x)"}) {
                loadFault(5, ALL + String.format(top, bad));
            }
        }
        for (String good : new String[] {"F(x)", "G(x,x)", "H(x,x,x)"}) {
            loads(ALL + "eq " + good + "=" + good + ";", 1);
        }
        for (String bad : new String[] {"F^", "F(x^,x)", "G^", "G(x^)", "G(x,x^,x)", "H^", "H(x^)", "H(x,x^)",
            "H(x,x,x^,x)"}) {
            loadFault(5, ALL + "eq " + bad + "=x;");
            loadFault(5, ALL + "eq F(x)=" + bad + ";");
            loadFault(5, ALL + "eq F(x)=S(" + bad + ");");
        }
    }

    private static void promise05SignsThatEndNoTermThere() {
        begin(5, "at the sign that would end a TERM just there");
        for (String bad : new String[] {"eq F^;", "eq F^,", "eq F^)", "eq F ^A=A;", "eq F ^eq", "eq F^?", "eq F^1",
            "eq F(S^=A;", "eq F(S^;", "eq F(S ^A)=A;", "eq F(x^=A;", "eq F(x^;", "eq F(A^=A;", "eq F(P(x^=A;",
            "eq F(x)=S^=", "eq F(x)=S^,", "eq F(x)=S^)", "eq F(x)=S ^A;", "eq F(x)=F^=", "eq F(x)=P(S^;", "eq F(x)=P(A^;",
            "eq F(x)=P(A,A^;", "eq F(x)=A^=A;", "eq F(x)=A^,", "eq F(x)=A^)", "eq F(x)^;", "eq F(x)^(x)=x;", "eq F(x)^)=x;",
            "eq F(^)=A;", "eq F(^,x)=A;", "eq G(x,^)=A;", "eq F(x^(x))=x;", "eq F(x)=^;", "eq ^=A;", "eq ^;", "eq ^?x=A;"}) {
            loadFault(2, ALL + bad);
        }
    }

    private static void promise05EightConstructors() {
        begin(5, "at most 8 CONSTRUCTORS");
        for (int n = 7; n <= 8; n++) {
            loads(lines("con", 'A', n, " 0;"), 0);
            ok("many(0)", x.many(0), n);
        }
        loadFault(6, lines("con", 'A', 8, " 0;") + "^con I 0;");
        loadFault(6, lines("con", 'A', 8, " 0;") + " ^con");
        loadFault(6, lines("con", 'A', 8, " 0;") + "^con A 0;");
        loads(lines("con", 'A', 8, " 0;") + lines("open", 'P', 5, " 1;"), 0);
    }

    private static void promise05FiveFamilies() {
        begin(5, "at most 5 FAMILIES");
        for (int n = 4; n <= 5; n++) {
            loads(lines("open", 'P', n - 2, " 1;") + lines("closed", 'X', 2, " 1;"), 0);
            ok("many(1)", x.many(1), n);
        }
        loadFault(6, lines("open", 'P', 5, " 1;") + "^closed X 1;");
        loadFault(6, lines("closed", 'P', 5, " 1;") + "^open X 1;");
        loadFault(6, lines("closed", 'P', 3, " 1;") + lines("open", 'W', 2, " 1;") + "^open P");
    }

    private static void promise05SixteenEquations() {
        begin(5, "at most 16 EQUATIONS");
        for (int n = 15; n <= 16; n++) {
            loads("open F 1;open G 1;" + times("eq F(x)=x;", n - 3) + times("eq G(x)=x;", 3), n);
            ok("many(2)", x.many(2), n);
        }
        loadFault(6, "open F 1;" + times("eq F(x)=x;", 16) + "^eq F(x)=x;");
        loadFault(6, "open F 1;open G 1;" + times("eq F(x)=x;", 16) + "^eq G");
        loads("open F 1;" + times("eq F(x)=x;", 16) + "con A 0;", 16);
    }

    private static void promise05SixVariables() {
        begin(5, "6 unlike VARIABLES in an EQUATION");
        for (int n = 5; n <= 6; n++) {
            loads(ALL + "eq F(" + pairs(n) + ")=" + pairs(n) + ";", 1);
            ok("equation(0, 2)", x.equation(0, 2), n);
        }
        loadFault(6, ALL + "eq F(" + pairs(7).replace("g", "^g") + ")=a;");
        loads(ALL + "eq F(" + pairs(7).replace("g", "a") + ")=a;", 1);
        loads(ALL + "eq F(" + pairs(6) + ")=a;eq F(" + pairs(6).replace("a", "g").replace("b", "h") + ")=g;", 2);
        loadFault(3, ALL + "eq F(" + pairs(6) + ")=^g;");
    }

    private static void promise05SixteenNodes() {
        begin(5, "16 NODES in a TERM");
        for (int n = 15; n <= 16; n++) {
            loads(ALL + "eq F(" + tower(n - 2) + ")=" + tower(n - 1) + ";", 1);
            ok("equation(0, 3)", x.equation(0, 3), n);
            ok("equation(0, 4)", x.equation(0, 4), n);
        }
        loadFault(6, ALL + "eq F(" + times("S(", 15) + "^A");
        loadFault(6, ALL + "eq F(" + times("S(", 15) + "^S(A");
        loadFault(6, ALL + "eq F(" + times("S(", 15) + "^x");
        loadFault(6, ALL + "eq F(x)=" + times("S(", 16) + "^A");
        loadFault(6, ALL + "eq F(x)=" + times("S(", 16) + "^x");
        loadFault(6, ALL + "eq F(x)=" + times("F(", 16) + "^F(x");
        loadFault(6, ALL + "eq F(P(" + tower(13, "x") + ",^x))=A;");
        loads(ALL + "eq F(P(" + tower(12, "x") + ",x))=A;", 1);
    }

    private static void promise05NamesThatAreTold() {
        begin(5, "3 a NAME that isn't told; 4 a NAME told already");
        loads("con A 0;con Aa 0;con Ab 0;con Aaa 0;con B 0;", 0);
        loadFault(4, "con A 0;con ^A 0;");
        loadFault(4, "con A 0;con ^A 1;");
        loadFault(4, "con A 0;open ^A 1;");
        loadFault(4, "open A 1;con ^A 0;");
        loadFault(4, "open A 1;closed ^A 1;");
        loadFault(4, "con Abcdef 1;closed ^Abcdef");
        loadFault(4, "con A 0;con ^A 7;");
        loadFault(3, "con A 0;open F 1;eq F(^B)=A;con B 0;");
        loadFault(3, "con A 0;open F 1;eq F(A)=^B;con B 0;");
        loadFault(3, "eq ^F(x)=x;open F 1;");
        loadFault(3, "open F 1;eq ^Ff(x)=x;");
        loadFault(3, "open Ff 1;eq ^F(x)=x;");
        loads("con A 0;open F 1;eq F(A)=A;con B 0;eq F(B)=B;", 2);
    }

    private static void promise05VariablesOfTheRight() {
        begin(5, "on the right a VARIABLE that isn't on the left");
        loads("con A 0;open F 1;open G 2;eq F(x)=x;eq G(x,y)=F(y);", 2);
        loadFault(3, "con A 0;open F 1;open G 2;eq F(x)=x;eq F(A)=^x;");
        loadFault(3, "con A 0;open F 1;open G 2;eq G(x,y)=G(x,^z);");
        loadFault(3, "con A 0;open F 1;open G 2;eq G(x,x)=^y;");
        loadFault(3, "con A 0;open F 1;open G 2;eq G(x,x)=G(x,^y,A);");
    }

    private static void promise05LeftSides() {
        begin(5, "7 a left side that is no FAMILY (at its first TOKEN), a FAMILY in its ARGUMENTS");
        for (String bad : new String[] {"^A=A;", "^x=x;", "^S(x)=x;", "^A(x)=x;", "^S=x;", "^P(x)=x;", "^x(x)=x;", "F(^F(x))=x;",
            "F(^F)=x;", "F(S(^G(x,x)))=x;", "G(x,^F(x))=x;", "H(x,P(x,S(^H", "F(^G(F(x),x))=x;"}) {
            loadFault(7, ALL + "eq " + bad);
        }
        loads(ALL + "eq F(x)=F(F(x));", 1);
    }

    private static void promise05LeastKind() {
        begin(5, "of one TOKEN the kind that is least");
        loadFault(1, ALL + "^closedx");
        loadFault(1, ALL + "eq ^ABc(x)=x;");
        loadFault(1, ALL + "eq F(" + times("S(", 15) + "^#");
        loadFault(2, ALL + "eq F(" + times("S(", 15) + "^con");
        loadFault(2, ALL + "eq F(" + times("S(", 15) + "^)");
        loadFault(3, ALL + "eq F(" + times("S(", 15) + "^X");
        loadFault(3, ALL + "eq F(x)=" + times("S(", 16) + "^X");
        loadFault(3, ALL + "eq F(x)=" + times("S(", 16) + "^y");
        loadFault(3, ALL + "eq ^X(x)=x;");
        loadFault(6, ALL + "eq F(" + times("S(", 15) + "^F(x");
        loadFault(4, "con A 0;con ^A#;");
        wantFault(3, "want ^X=x;");
        loads(ALL, 0);
        wantFault(6, "given F(" + times("S(", 29) + "^?a");
        wantFault(2, "want " + times("S(", 30) + "^,");
        wantFault(3, "want " + times("S(", 30) + "^X");
        wantFault(3, "given ^X=x;");
        termFault(3, times("S(", 60) + "^X");
        termFault(2, times("S(", 60) + "^?");
    }

    private static void promise05FirstAlongTheText() {
        begin(5, "the first one along the text");
        loadFault(5, "con A ^7;con A 7;#");
        loadFault(2, "con A 0 ^con A 12;");
        loadFault(4, "con A 0;con ^A 12;");
        loadFault(7, ALL + "eq ^x=" + times("S(", 17) + "#");
        loadFault(5, ALL + "eq F^=y;");
        loadFault(3, ALL + "eq F(^X)=y;con A 0;");
    }

    private static void promise14Sixty() {
        begin(14, "60 NODES at most");
        loads(ALL, 0);
        for (int n = 59; n <= 60; n++) {
            terms(tower(n - 1), n);
            terms(tower(n - 3, "P(x,x)").replaceFirst("S", "F"), n);
        }
        termFault(6, times("S(", 60) + "^A" + times(")", 60));
        termFault(6, times("S(", 60) + "^x");
        termFault(6, times("S(", 60) + "^F(x");
        terms("P(" + tower(57) + ",x)", 60);
        termFault(6, "P(" + tower(58) + ",^x)");
    }

    private static void promise14TwelveVariables() {
        begin(14, "12 unlike ones");
        loads(ALL, 0);
        for (int n = 11; n <= 12; n++) {
            terms(pairs(n), 2 * n - 1);
            ok("the last one's number", x.node(2 * n - 2, 1), n - 1);
        }
        termFault(6, pairs(13).replace("m", "^m"));
        terms(pairs(13).replace("m", "l"), 25);
        ok("it is the twelfth again", x.node(24, 1), 11);
        terms(pairs(13).replace("m", "a"), 25);
        ok("it is the first again", x.node(24, 1), 0);
    }

    private static void promise14TextOfATerm() {
        begin(14, "told by a text: TERM");
        loads(ALL, 0);
        for (String bad : new String[] {"^", "  ^", "x ^x", "x^;", "x^(x)", "A^;", "A^=A", "A^,", "A^)", "^;", "^(", "^?x", "^0", "S(^",
            "S(x^", "S(^)", "P(x,^", "P(x,^)", "P(x,x^", "S(x)^)", "S(x)^(x)", "S^;", "S^=", "S^,", "S^)", "P(S^;", "P(x^;",
            "S(x^;", "S(x^=", "^eq F(x)=x;"}) {
            termFault(2, bad);
        }
        for (String bad : new String[] {"A^(x)", "S(S^)", "P(S^,x)", "S(x^,x)", "P(x^)", "P(x,x^,x)", "T(x,x^)", "T(x,x,x^,x)",
            "F(x^,x)", "G(x^)", "H(x,x^)", "P(A^(x),x)", "F(G^)"}) {
            termFault(5, bad);
        }
        for (String bad : new String[] {"^X", "S(^X)", "^X(", "P(x,^Xy)"}) {
            termFault(3, bad);
        }
        for (String bad : new String[] {"S(^#)", "^12", "x ^Xyzabcd", "S^\t(x)"}) {
            termFault(1, bad);
        }
        for (String good : new String[] {"x", "A", "F(F(x))"}) {
            terms("\n " + good + " \n", good.length() == 1 ? 1 : 3);
        }
    }

    private static void promise14HowManyBytes() {
        begin(14, "1 as for load(); 9: all else stays");
        loads(ALL, 0);
        for (int n : outside(0)) {
            no("term(" + n + ")", x.term(n), 1);
        }
        terms("S(A)", 2);
        feed("A");
        for (int n : outside(20)) {
            no("term(" + n + ")", x.term(n), 1);
            ok("THE TERM stays", x.now(0), 2);
        }
        ok("the tape stays: term(20)", x.term(20), 1);
        no("it is empty then: term(1)", x.term(1), 1);
        feed("P(A,x)");
        ok("term(6)", x.term(6), 3);
        no("it is empty then: term(1)", x.term(1), 1);
        feed("P(A,x)");
        faulty("term(5)", x.term(5), 2, 5);
        ok("THE TERM stays", x.now(0), 3);
        no("the tape is empty behind a FAULT", x.term(1), 1);
        feed("A");
        faulty("term(0)", x.term(0), 2, 0);
        no("the tape is empty", x.term(1), 1);
        printed("P(A,x)");
        terms(times(" ", 899) + "A", 1);
        no("term of 901 bytes", term(times(" ", 900) + "A"), 1);
    }

    private static void promise25SixGiven() {
        begin(25, "at most 6 GIVEN");
        loads(ALL, 0);
        wants(times("given F(x)=x;", 5), 0);
        wants(times("given F(x)=x;", 6), 0);
        wantFault(6, times("given F(x)=x;", 6) + "^given F(x)=x;");
        wantFault(6, times("given F(x)=x;", 6) + "^given");
        wants(times("given F(x)=x;", 6) + times("want x=x;", 8), 0);
        wants(times("given F(y)=y;", 5) + "given F(x)=A;want F(x)=A;", 0);
    }

    private static void promise25EightWanted() {
        begin(25, "8 WANTED");
        loads(ALL, 0);
        wants(times("want F(x)=x;", 7), 7);
        wants(times("want F(x)=x;", 8), 8);
        wantFault(6, times("want x=x;", 8) + "^want x=x;");
        wantFault(6, times("want x=x;", 8) + "\n^want");
        wants(times("want x=x;", 8) + "given F(x)=x;", 0);
    }

    private static void promise25ThirtyNodes() {
        begin(25, "30 NODES of a side");
        loads(ALL, 0);
        for (int n = 29; n <= 30; n++) {
            wants("want " + tower(n - 1) + "=" + tower(n - 1) + ";", 0);
            wants("want " + tower(n - 1, "?a") + "=" + tower(n - 1, "?b") + ";", 1);
            wants("given F(" + tower(n - 2) + ")=" + tower(n - 1) + ";want F(" + tower(n - 2) + ")=" + tower(n - 1) + ";", 0);
        }
        wantFault(6, "want " + times("S(", 30) + "^A");
        wantFault(6, "want " + times("S(", 30) + "^x");
        wantFault(6, "want " + times("S(", 30) + "^?a");
        wantFault(6, "want " + times("S(", 30) + "^?");
        wantFault(6, "want x=" + times("S(", 30) + "^A");
        wantFault(6, "want x=" + times("F(", 30) + "^?a");
        wantFault(6, "given " + times("F(", 30) + "^A");
        wantFault(6, "given " + times("F(", 30) + "^F(A");
        wantFault(6, "given F(x)=" + times("S(", 30) + "^A");
        wantFault(6, "given F(x)=" + times("S(", 30) + "^?a");
        wantFault(7, "given F(x)=" + times("S(", 29) + "^?a");
        wantFault(6, "want P(" + tower(28) + ",^?a)=x;");
        wants("want P(" + tower(27) + ",?a)=x;", 1);
    }

    private static void promise25SixUnknowns() {
        begin(25, "of a seventh UNKNOWN at its WORD; 6 at most");
        loads(ALL, 0);
        String five = "want ?a=?b;want ?c=?d;want ?e=x;";
        wants(five, 0);
        ok("wanted(4)", x.wanted(4), 5);
        wants(five + "want ?f=x;", 0);
        ok("wanted(4)", x.wanted(4), 6);
        wantFault(6, five + "want ?f=?^g;");
        wantFault(6, five + "want ?f=? ^g;");
        wantFault(6, five + "want P(?f,? ^g)=x;");
        wantFault(1, five + "want ?f=?^gggGgg;");
        wantFault(2, five + "want ?f=?^G;");
        wants(five + "want ?f=?a;want ?b=?c;want f=f;want ?a=?a;", 0);
        ok("VARIABLES are no UNKNOWNS", want(five + "want ?f=x;want g=g;"), 0);
        wants("want ?con=?open;want ?closed=?back;want ?eq=?given;", 0);
        wants("want ?want=?given;", 0);
        out("unknown(0)", x.unknown(0), "?given");
    }

    private static void promise25UnknownsAreNumbered() {
        begin(25, "numbered as they first stand");
        loads(ALL, 0);
        wants("given F(e)=e;want P(?f,?b)=P(A,?a);want ?c=S(?d);want ?f=?e;", 0);
        ok("wanted(4)", x.wanted(4), 6);
        out("unknown(0)", x.unknown(0), "A");
        out("unknown(1)", x.unknown(1), "?a");
        no("unknown(2)", x.unknown(2), 5);
        out("unknown(3)", x.unknown(3), "S(?d)");
        no("unknown(4)", x.unknown(4), 5);
        out("unknown(5)", x.unknown(5), "A");
        no("unknown(6)", x.unknown(6), 2);
    }

    private static void promise25FaultsOfUnknowns() {
        begin(25, "a TERM here may also be ? WORD");
        loads(ALL, 0);
        for (String bad : new String[] {"want ?^=x;", "want ?^?a=x;", "want ?^A=x;", "want ?^1=x;", "want ?^(a)=x;", "want ?a^(x)=x;",
            "want x=?^;", "want ?^", "want ?a^", "want ?a=^", "want ?a^;", "want S(?^)=x;", "want S(?a^=x;"}) {
            wantFault(2, bad);
        }
        wantFault(1, "want ?^abcdefg=x;");
        wantFault(1, "want ?^aB=x;");
        wants("want ?abcdef=x;", 0);
        wants("want\n?\nabcdef\n=x;", 0);
        wantFault(5, "want S(?a^,?a)=x;");
        wantFault(5, "want P(?a^)=x;");
    }

    private static void promise25FaultsOfGiven() {
        begin(25, "7 a left side of a GIVEN that is no FAMILY (at its first TOKEN), an UNKNOWN in a GIVEN (at its ?)");
        loads(ALL, 0);
        for (String bad : new String[] {"^A=A;", "^x=x;", "^S(x)=x;", "^?a=x;", "^S=x;", "F(^?a)=x;", "F(x)=^?a;", "F(x)=S(^?a);",
            "G(x,S(^?", "F(x)=^?;", "^?;", "F(x)=P(x,^?A);"}) {
            wantFault(7, "given " + bad);
        }
        wants("given F(x)=y;want F(x)=y;", 0);
        wants("given F(F(x))=y;want F(F(x))=y;", 0);
        wants("given F(x)=F(y);want F(x)=F(y);", 0);
    }

    private static void promise25LinesOfAWant() {
        begin(25, "{ given TERM = TERM ; or want TERM = TERM ; }");
        loads(ALL, 0);
        for (String bad : new String[] {"^A=A;", "^x=x;", "^con A 0;", "^eq F(x)=x;", "^=", "^;", "want x=x;^;", "want x=x;^x=x;", "want^",
            "want ^", "want x^", "want x=^", "want x=x^", "want x=x ^", "want x^;", "want x=x^=x;", "want x=x^,", "want x=x^)", "want ^=x;",
            "want ^;", "given^", "given F^", "given F(x^", "given F(x)^", "given F(x)^;", "given F(x)=^", "given F(x)=^;", "given F(x)=x^",
            "want F^", "want x=F^", "want F^;", "want x=F^=", "given F^;", "given F(x)=S^="}) {
            wantFault(2, bad);
        }
        for (String bad : new String[] {"want S^=x;", "want x=S^;", "want A^(x)=x;", "want P(x^)=x;", "want P(x,x^,x)=x;", "want x=T(x,x^);",
            "want F^=x;", "want x=H(x,x^);", "given F^=x;", "given F(x^,x)=x;", "given F(x)=F^;", "given G(x^)=x;", "given F(S^)=x;",
            "given G(S^,x)=x;"}) {
            wantFault(5, bad);
        }
        for (String bad : new String[] {"want ^X=x;", "want x=^X;", "given F(^X)=x;", "given F(x)=^Xx;", "given ^X(x)=x;"}) {
            wantFault(3, bad);
        }
        wants("", 0);
        wants(" \n", 0);
    }

    private static void promise25VariablesOfWanted() {
        begin(25, "3 of NAMES alone");
        loads(ALL, 0);
        wants("given F(x)=y;want F(x)=z;", 1);
        ok("wanted(1)", x.wanted(1), 1);
        wants("want " + pairs(13) + "=" + pairs(13) + ";", 0);
        wants("want " + pairs(15) + "=" + pairs(15) + ";", 0);
        wants("want " + pairs(13) + "=" + pairs(13).replace("m", "n") + ";", 1);
        ok("wanted(1)", x.wanted(1), 1);
    }

    private static void promise25HowManyBytes() {
        begin(25, "1 as for load(); 9: all else stays");
        for (int n : outside(0)) {
            no("want(" + n + ")", x.want(n), 1);
        }
        no("wanted(0)", x.wanted(0), 5);
        loads(ALL, 0);
        wants("want ?a=S(A);want A=S(A);", 1);
        feed("want x=x;");
        for (int n : outside(20)) {
            no("want(" + n + ")", x.want(n), 1);
            ok("wanted(1) stays", x.wanted(1), 1);
        }
        ok("the tape stays: want(9)", x.want(9), 0);
        ok("wanted(1)", x.wanted(1), 0);
        no("it is empty then", x.want(1), 1);
        wants("want ?a=S(A);want A=S(A);", 1);
        wantFault(2, "given F(x)=A;want ?b=A;want ?c^");
        wantedIs(1, 1, 1, 1, 1, 1);
        out("unknown(0) stays", x.unknown(0), "S(A)");
        no("the tape is empty behind a FAULT", x.want(1), 1);
        ok("want(0)", x.want(0), 0);
        wantedIs(0, 0, -1, 1, 0, 0);
        no("unknown(0)", x.unknown(0), 2);
        wants(times(" ", 891) + "want x=x;", 0);
        no("want of 901 bytes", want(times(" ", 892) + "want x=x;"), 1);
    }

    public static void main(String[] args) {
        runAll(TextBoundaryTest.class);
    }
}
