import java.io.DataInputStream;
import java.io.IOException;
import java.io.InputStream;
import java.util.Map;
import java.util.Set;
import java.util.TreeMap;
import java.util.TreeSet;

/** What a compiled class calls, read from its class file: the text does not tell all that javac makes of it. */
final class Compiled {
    private static final int METHOD = 10, INTERFACE_METHOD = 11, FIELD = 9;
    private static final int TABLE_SWITCH = 0xaa, LOOKUP_SWITCH = 0xab, THROW = 0xbf, WIDE = 0xc4;
    private static final int FIRST_INVOKE = 0xb6, INVOKE_DYNAMIC = 0xba;

    /** For each method of the class (its name behind the class's) the methods that it calls. */
    final Map<String, Set<String>> calls = new TreeMap<>();
    /** Fields of other classes that it names. */
    final Set<String> fields = new TreeSet<>();
    boolean throwsOrCatches;
    boolean dynamic;
    private int[] tags;
    private int[] first;
    private int[] second;
    private String[] texts;

    Compiled(Class<?> type) throws IOException {
        String file = type.getName() + ".class";
        try (InputStream in = type.getResourceAsStream(file)) {
            if (in == null) {
                throw new IOException("no " + file);
            }
            read(new DataInputStream(in));
        }
    }

    private void read(DataInputStream in) throws IOException {
        in.readInt();
        in.readInt();
        pool(in);
        in.readUnsignedShort();
        String self = className(in.readUnsignedShort());
        in.readUnsignedShort();
        int interfaces = in.readUnsignedShort();
        in.skipBytes(interfaces * 2);
        members(in, self, false);
        members(in, self, true);
        for (int i = 0; i < tags.length; i++) {
            if (tags[i] == FIELD && !className(first[i]).startsWith("FastWhy")) {
                fields.add(member(i));
            }
        }
    }

    private void pool(DataInputStream in) throws IOException {
        int size = in.readUnsignedShort();
        tags = new int[size];
        first = new int[size];
        second = new int[size];
        texts = new String[size];
        for (int i = 1; i < size; i++) {
            tags[i] = in.readUnsignedByte();
            switch (tags[i]) {
                case 1: texts[i] = in.readUTF(); break;
                case 3: case 4: in.readInt(); break;
                case 5: case 6: in.readLong(); i++; break;
                case 7: case 8: case 16: case 19: case 20: first[i] = in.readUnsignedShort(); break;
                case 15: first[i] = in.readUnsignedByte(); second[i] = in.readUnsignedShort(); break;
                default: first[i] = in.readUnsignedShort(); second[i] = in.readUnsignedShort(); break;
            }
        }
    }

    private String className(int at) {
        return texts[first[at]].replace('/', '.');
    }

    private String member(int at) {
        return className(first[at]) + "." + texts[first[second[at]]];
    }

    private void members(DataInputStream in, String self, boolean methods) throws IOException {
        int many = in.readUnsignedShort();
        for (int i = 0; i < many; i++) {
            in.readUnsignedShort();
            String name = self + "." + texts[in.readUnsignedShort()];
            in.readUnsignedShort();
            int attributes = in.readUnsignedShort();
            for (int j = 0; j < attributes; j++) {
                String kind = texts[in.readUnsignedShort()];
                byte[] content = new byte[in.readInt()];
                in.readFully(content);
                if (methods && kind.equals("Code")) {
                    code(content, calls.computeIfAbsent(name, k -> new TreeSet<>()));
                }
            }
        }
    }

    private static int number(byte[] bytes, int at, int wide) {
        int all = 0;
        for (int i = 0; i < wide; i++) {
            all = all << 8 | bytes[at + i] & 0xff;
        }
        return all;
    }

    private void code(byte[] bytes, Set<String> called) {
        int from = 8;
        int to = from + number(bytes, 4, 4);
        throwsOrCatches |= number(bytes, to, 2) > 0;
        int at = from;
        while (at < to) {
            int op = bytes[at] & 0xff;
            throwsOrCatches |= op == THROW;
            dynamic |= op == INVOKE_DYNAMIC;
            int ref = number(bytes, at + 1, op >= FIRST_INVOKE && op < INVOKE_DYNAMIC ? 2 : 0);
            if (tags[ref] == METHOD || tags[ref] == INTERFACE_METHOD) {
                called.add(member(ref));
            }
            at += length(bytes, at, op, (4 - (at - from + 1) % 4) % 4);
        }
    }

    /** How long an instruction is; the numbers of a switch begin at a place that 4 divides, behind a pad. */
    private static int length(byte[] bytes, int at, int op, int pad) {
        int numbers = at + 1 + pad;
        switch (op) {
            case TABLE_SWITCH: return 1 + pad + 12
                + 4 * (number(bytes, numbers + 8, 4) - number(bytes, numbers + 4, 4) + 1);
            case LOOKUP_SWITCH: return 1 + pad + 8 + 8 * number(bytes, numbers + 4, 4);
            case WIDE: return (bytes[at + 1] & 0xff) == 0x84 ? 6 : 4;
            case 0x10: case 0x12: case 0xa9: case 0xbc: return 2;
            case 0x11: case 0x13: case 0x14: case 0x84: case 0xbb: case 0xbd: case 0xc0: case 0xc1: case 0xc6: case 0xc7:
                return 3;
            case 0xc5: return 4;
            case 0xb9: case INVOKE_DYNAMIC: case 0xc8: case 0xc9: return 5;
            default: break;
        }
        if (op >= 0x15 && op <= 0x19 || op >= 0x36 && op <= 0x3a) {
            return 2;
        }
        return op >= 0x99 && op <= 0xa8 || op >= 0xb2 && op <= 0xb8 ? 3 : 1;
    }
}
