import java.io.DataInputStream;
import java.io.IOException;
import java.util.ArrayList;
import java.util.List;
import java.util.Map;
import java.util.TreeMap;
import java.util.TreeSet;
import java.util.Set;

/** LANGUAGE.md, rules 8 and 11: who calls whom, read from the compiled classes: no circle, at most eight deep. */
public final class CallDepthTest {
    private static final int DEEPEST = 8;
    /** Bytes behind each opcode; x: a switch, w: wide. */
    private static final String BEHIND = "0000000000000000" + "1212211111000000" + "0000000000000000" + "0000001111100000"
        + "0000000000000000" + "0000000000000000" + "0000000000000000" + "0000000000000000" + "0000200000000000"
        + "0000000002222222" + "2222222221xx0000" + "0022222224421200" + "2200w32244";
    private static final Map<String, Set<String>> CALLS = new TreeMap<>();
    private static final Map<String, Integer> DEEP = new TreeMap<>();
    private static final List<String> OPEN = new ArrayList<>();
    private static int wrong = 0;

    public static void main(String[] args) throws IOException {
        read(FamilyReducer.class);
        for (Class<?> c : FamilyReducer.class.getDeclaredClasses()) {
            read(c);
        }
        int most = 0;
        for (String method : CALLS.keySet()) {
            most = Math.max(most, depth(method));
        }
        if (most > DEEPEST) {
            wrong++;
            for (String method : CALLS.keySet()) {
                if (DEEP.get(method) > DEEPEST) {
                    System.out.println("rule 11, " + DEEP.get(method) + " deep: " + method);
                }
            }
        }
        if (CALLS.size() < 100) {
            wrong++;
            System.out.println("only " + CALLS.size() + " methods were found");
        }
        System.out.println(CALLS.size() + " methods, calls go " + most + " deep");
        if (wrong != 0) {
            System.exit(1);
        }
    }

    private static int depth(String method) {
        if (OPEN.contains(method)) {
            wrong++;
            System.out.println("rule 8, a circle: " + OPEN + " " + method);
            return 0;
        }
        if (!DEEP.containsKey(method)) {
            OPEN.add(method);
            int most = 0;
            for (String called : CALLS.getOrDefault(method, Set.of())) {
                most = Math.max(most, depth(called));
            }
            OPEN.remove(OPEN.size() - 1);
            DEEP.put(method, most + 1);
        }
        return DEEP.get(method);
    }

    private static void read(Class<?> c) throws IOException {
        String file = c.getName() + ".class";
        try (DataInputStream in = new DataInputStream(c.getResourceAsStream(file))) {
            in.skipBytes(8);
            Object[] pool = readPool(in);
            in.skipBytes(6);
            in.skipBytes(2 * in.readUnsignedShort());
            for (int fields = in.readUnsignedShort(); fields > 0; fields--) {
                in.skipBytes(6);
                skipAttributes(in);
            }
            for (int methods = in.readUnsignedShort(); methods > 0; methods--) {
                readMethod(in, pool, c.getName());
            }
        }
    }

    /** Texts as they are, all else as the numbers of what it is made of. */
    private static Object[] readPool(DataInputStream in) throws IOException {
        Object[] pool = new Object[in.readUnsignedShort()];
        for (int i = 1; i < pool.length; i++) {
            int tag = in.readUnsignedByte();
            switch (tag) {
                case 1: pool[i] = in.readUTF(); break;
                case 3: case 4: in.readInt(); break;
                case 5: case 6: in.readLong(); i++; break;
                case 7: case 8: case 16: case 19: case 20: pool[i] = new int[] {in.readUnsignedShort()}; break;
                case 15: in.skipBytes(3); break;
                default: pool[i] = new int[] {in.readUnsignedShort(), in.readUnsignedShort()};
            }
        }
        return pool;
    }

    private static void skipAttributes(DataInputStream in) throws IOException {
        for (int n = in.readUnsignedShort(); n > 0; n--) {
            in.skipBytes(2);
            in.skipBytes(in.readInt());
        }
    }

    private static void readMethod(DataInputStream in, Object[] pool, String owner) throws IOException {
        in.skipBytes(2);
        String name = owner + "." + pool[in.readUnsignedShort()] + pool[in.readUnsignedShort()];
        CALLS.put(name, new TreeSet<>());
        for (int n = in.readUnsignedShort(); n > 0; n--) {
            boolean code = "Code".equals(pool[in.readUnsignedShort()]);
            int length = in.readInt();
            byte[] bytes = new byte[length];
            in.readFully(bytes);
            if (code) {
                readCode(bytes, pool, CALLS.get(name));
            }
        }
    }

    private static int number(byte[] b, int at, int bytes) {
        int n = 0;
        for (int i = 0; i < bytes; i++) {
            n = n << 8 | b[at + i] & 255;
        }
        return n;
    }

    private static void readCode(byte[] b, Object[] pool, Set<String> calls) {
        int end = 8 + number(b, 4, 4);
        int at = 8;
        while (at < end) {
            int op = b[at] & 255;
            if (op >= 182 && op <= 185) {
                int[] called = (int[]) pool[number(b, at + 1, 2)];
                String owner = (String) pool[((int[]) pool[called[0]])[0]];
                int[] what = (int[]) pool[called[1]];
                if (owner.startsWith("FamilyReducer")) {
                    calls.add(owner + "." + pool[what[0]] + pool[what[1]]);
                }
            }
            at = behind(b, at, op);
        }
        if (at != end) {
            wrong++;
            System.out.println("the code was not read as it is");
        }
    }

    private static int behind(byte[] b, int at, int op) {
        char how = BEHIND.charAt(op);
        if (how == 'w') {
            return at + ((b[at + 1] & 255) == 132 ? 6 : 4);
        }
        if (how != 'x') {
            return at + 1 + (how - '0');
        }
        int from = 8 + (at - 8) / 4 * 4 + 4;
        if (op == 170) {
            return from + 12 + 4 * (number(b, from + 8, 4) - number(b, from + 4, 4) + 1);
        }
        return from + 8 + 8 * number(b, from + 4, 4);
    }
}
