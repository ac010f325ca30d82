import java.io.DataInputStream;
import java.io.IOException;
import java.io.InputStream;
import java.util.ArrayList;
import java.util.LinkedHashMap;
import java.util.LinkedHashSet;
import java.util.List;
import java.util.Map;
import java.util.Set;

/** Rules 8 and 11 of LANGUAGE.md, told from the compiled class: no method calls itself, and calls go at most eight deep. */
public final class CallDepthTest {
    private static final int MOST_DEEP = 8;
    private static final Due due = new Due();
    /** Of each method, which ones it calls; the library's are among them, and call none. */
    private static final Map<String, Set<String>> calls = new LinkedHashMap<>();
    private static final Map<String, List<String>> deepest = new LinkedHashMap<>();

    public static void main(String[] args) throws IOException {
        List<Class<?>> classes = new ArrayList<>(List.of(LockRail.class.getDeclaredClasses()));
        classes.add(LockRail.class);
        for (Class<?> c : classes) {
            try (InputStream in = LockRail.class.getResourceAsStream(c.getName() + ".class")) {
                read(new DataInputStream(in));
            }
        }
        due.is("some methods were found", 1, calls.size() > 100 ? 1 : 0);
        for (String method : calls.keySet()) {
            List<String> chain = chainFrom(method, new LinkedHashSet<>());
            due.is("11: at most eight deep: " + chain, 1, chain.size() <= MOST_DEEP ? 1 : 0);
        }
        due.close();
    }

    /** The longest chain of calls from a method on. */
    private static List<String> chainFrom(String method, Set<String> open) {
        if (deepest.containsKey(method)) return deepest.get(method);
        List<String> longest = new ArrayList<>();
        if (!open.add(method)) {
            due.is("8: recursion, which this class does without: " + open + " " + method, 0, 1);
            return longest;
        }
        for (String callee : calls.getOrDefault(method, Set.of())) {
            List<String> chain = chainFrom(callee, open);
            if (chain.size() > longest.size()) longest = chain;
        }
        open.remove(method);
        List<String> chain = new ArrayList<>(List.of(method));
        chain.addAll(longest);
        deepest.put(method, chain);
        return chain;
    }

    private static void read(DataInputStream in) throws IOException {
        in.skipNBytes(8);
        String[] texts = new String[in.readUnsignedShort()];
        int[][] refs = new int[texts.length][];
        for (int i = 1; i < texts.length; i++) {
            int tag = in.readUnsignedByte();
            switch (tag) {
                case 1 -> texts[i] = in.readUTF();
                case 7, 8, 16, 19, 20 -> refs[i] = new int[] {in.readUnsignedShort()};
                case 9, 10, 11, 12, 17, 18 -> refs[i] = new int[] {in.readUnsignedShort(), in.readUnsignedShort()};
                case 3, 4 -> in.skipNBytes(4);
                case 5, 6 -> {
                    in.skipNBytes(8);
                    i++;
                }
                case 15 -> in.skipNBytes(3);
                default -> throw new IOException("constant of kind " + tag);
            }
        }
        in.skipNBytes(2);
        String name = texts[refs[in.readUnsignedShort()][0]];
        in.skipNBytes(2);
        in.skipNBytes(2L * in.readUnsignedShort());
        for (int part = 0; part < 2; part++) {
            int members = in.readUnsignedShort();
            for (int i = 0; i < members; i++) {
                in.skipNBytes(2);
                String method = name + "." + texts[in.readUnsignedShort()] + texts[in.readUnsignedShort()];
                int attributes = in.readUnsignedShort();
                for (int j = 0; j < attributes; j++) {
                    String attribute = texts[in.readUnsignedShort()];
                    byte[] bytes = new byte[in.readInt()];
                    in.readFully(bytes);
                    if (attribute.equals("Code")) calls.put(method, callees(bytes, texts, refs));
                }
            }
        }
    }

    private static int number(byte[] bytes, int at, int n) {
        int v = 0;
        for (int i = 0; i < n; i++) v = v << 8 | bytes[at + i] & 255;
        return v;
    }

    private static Set<String> callees(byte[] attribute, String[] texts, int[][] refs) {
        Set<String> found = new LinkedHashSet<>();
        int from = 8;
        int end = from + number(attribute, 4, 4);
        for (int at = from; at < end; at += length(attribute, at, from)) {
            int code = attribute[at] & 255;
            if (code < 182 || code > 185) continue;
            int[] ref = refs[number(attribute, at + 1, 2)];
            int[] nameAndType = refs[ref[1]];
            found.add(texts[refs[ref[0]][0]] + "." + texts[nameAndType[0]] + texts[nameAndType[1]]);
        }
        return found;
    }

    /** How many bytes an instruction has. */
    private static int length(byte[] code, int at, int from) {
        int op = code[at] & 255;
        int padded = at + 4 - (at - from) % 4;
        return switch (op) {
            case 16, 18, 169, 188 -> 2;
            case 17, 19, 20, 132, 187, 189, 192, 193, 198, 199 -> 3;
            case 197 -> 4;
            case 185, 186, 200, 201 -> 5;
            case 196 -> (code[at + 1] & 255) == 132 ? 6 : 4;
            case 170 -> padded + 12 + 4 * (number(code, padded + 8, 4) - number(code, padded + 4, 4) + 1) - at;
            case 171 -> padded + 8 + 8 * number(code, padded + 4, 4) - at;
            default -> op >= 21 && op <= 25 || op >= 54 && op <= 58 ? 2 : op >= 153 && op <= 168 || op >= 178 && op <= 184 ? 3 : 1;
        };
    }
}
