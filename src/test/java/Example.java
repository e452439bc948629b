/** How the class is used; README.md shows this file, and ReadmeTest holds the two together. */
public final class Example {
    /** Puts a text on the tape, twenty bytes a call, filled up with blanks; its length. */
    static int tape(FamilyReducer x, String text) {
        for (int at = 0; at < text.length(); at += 20) {
            int[] words = new int[5];
            for (int i = 0; i < 20; i++) {
                int c = at + i < text.length() ? text.charAt(at + i) : ' ';
                words[i / 4] = words[i / 4] << 8 | c;
            }
            x.feed(words[0], words[1], words[2], words[3], words[4]);
        }
        return text.length();
    }

    /** The first n bytes of OUT. */
    static String out(FamilyReducer x, int n) {
        StringBuilder text = new StringBuilder();
        for (int i = 0; i < n; i++) {
            text.append((char) x.out(i));
        }
        return text.toString();
    }

    public static void main(String[] args) {
        FamilyReducer x = new FamilyReducer();
        System.out.println("equations " + x.load(tape(x,
            "con Yes 0; con No 0; con Int 0; con List 1;\n"
            + "closed Eq 2; eq Eq(a,a) = Yes; eq Eq(a,b) = No;\n"
            + "open Elem 1; eq Elem(List(a)) = a;\n")));
        System.out.println("the two of Eq part: " + out(x, x.ends(0, 1, 0)) + ", " + out(x, x.ends(0, 1, 1)));
        System.out.println("Elem is bad backwards by " + x.bad(1, 0));

        System.out.println("nodes " + x.term(tape(x, "Eq(Int,Elem(List(Int)))")));
        System.out.println("at the first node, equation 1: " + x.why(0, 1) + ", for " + x.still(0, 1) + " may still");
        System.out.println("steps " + x.reduce(0) + " to " + out(x, x.print()));

        System.out.println("left " + x.want(tape(x, "given Elem(c) = Int; want List(?x) = List(Elem(c));")));
        System.out.println("x is " + out(x, x.unknown(0)));

        int answer = x.load(tape(x, "con A 1; con A 0;"));
        System.out.println("answer " + answer + " status " + x.status()
            + " fault " + x.fault(0) + " at " + x.fault(1));
    }
}
