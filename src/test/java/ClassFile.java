import java.io.ByteArrayInputStream;
import java.io.DataInputStream;
import java.io.IOException;
import java.io.InputStream;
import java.util.ArrayList;
import java.util.List;
import java.util.Set;
import java.util.TreeSet;

/** What javac made of a class, as far as the rules of the language are about it. */
final class ClassFile {
    /** A method with what its code does. */
    static final class Body {
        final String owner;
        final String name;
        final String type;
        /** Of methods, as "Owner.name(types)result". */
        final Set<String> calls = new TreeSet<>();
        final Set<String> caught = new TreeSet<>();
        final Set<Integer> operations = new TreeSet<>();
        int lines;

        Body(String owner, String name, String type) {
            this.owner = owner;
            this.name = name;
            this.type = type;
        }

        String id() {
            return owner + "." + name + type;
        }
    }

    static final int ATHROW = 191;
    static final int FREM = 114;
    static final int DREM = 115;

    private static final int TABLESWITCH = 170;
    private static final int LOOKUPSWITCH = 171;
    private static final int WIDE = 196;
    private static final int IINC = 132;

    final String name;
    final List<Body> bodies = new ArrayList<>();
    /** All methods and fields that the class names, as "Owner.name(types)result" or "Owner.nametype". */
    final Set<String> named = new TreeSet<>();
    boolean callsDynamically;

    private final DataInputStream in;
    private final Object[] pool;

    private ClassFile(InputStream stream) throws IOException {
        in = new DataInputStream(stream);
        in.readInt();
        in.readInt();
        pool = new Object[in.readUnsignedShort()];
        readPool();
        in.readUnsignedShort();
        name = classAt(in.readUnsignedShort());
        in.readUnsignedShort();
        in.skipBytes(2 * in.readUnsignedShort());
        readMembers(false);
        readMembers(true);
        nameAll();
    }

    static ClassFile of(Class<?> type) throws IOException {
        try (InputStream stream = type.getResourceAsStream("/" + type.getName() + ".class")) {
            return new ClassFile(stream);
        }
    }

    private void readPool() throws IOException {
        for (int i = 1; i < pool.length; i++) {
            int tag = in.readUnsignedByte();
            switch (tag) {
                case 1 -> pool[i] = in.readUTF();
                case 3, 4 -> in.readInt();
                case 5, 6 -> {
                    in.readLong();
                    i++;
                }
                case 7, 8, 16, 19, 20 -> pool[i] = new int[] {tag, in.readUnsignedShort(), 0};
                case 15 -> in.skipBytes(3);
                default -> pool[i] = new int[] {tag, in.readUnsignedShort(), in.readUnsignedShort()};
            }
            callsDynamically = callsDynamically || tag == 15 || tag == 16 || tag == 17 || tag == 18;
        }
    }

    private String text(int i) {
        return (String) pool[i];
    }

    private String classAt(int i) {
        return text(((int[]) pool[i])[1]);
    }

    /** What stands in the pool for a method or a field: its owner and name, and its type. */
    private String[] memberAt(int i) {
        int[] member = (int[]) pool[i];
        int[] nameAndType = (int[]) pool[member[2]];
        return new String[] {classAt(member[1]) + "." + text(nameAndType[1]), text(nameAndType[2])};
    }

    private void nameAll() {
        for (int i = 1; i < pool.length; i++) {
            if (pool[i] instanceof int[] entry && entry[0] >= 9 && entry[0] <= 11) {
                named.add(String.join("", memberAt(i)));
            }
        }
    }

    private void readMembers(boolean areMethods) throws IOException {
        int members = in.readUnsignedShort();
        for (int n = 0; n < members; n++) {
            in.readUnsignedShort();
            Body body = new Body(name, text(in.readUnsignedShort()), text(in.readUnsignedShort()));
            int attributes = in.readUnsignedShort();
            for (int a = 0; a < attributes; a++) {
                boolean isCode = text(in.readUnsignedShort()).equals("Code");
                byte[] bytes = in.readNBytes(in.readInt());
                if (isCode) {
                    readCode(body, bytes);
                }
            }
            if (areMethods) {
                bodies.add(body);
            }
        }
    }

    private void readCode(Body body, byte[] bytes) throws IOException {
        DataInputStream code = new DataInputStream(new ByteArrayInputStream(bytes));
        code.readInt();
        readOperations(body, code.readNBytes(code.readInt()));
        int handlers = code.readUnsignedShort();
        for (int n = 0; n < handlers; n++) {
            code.skipBytes(6);
            int type = code.readUnsignedShort();
            body.caught.add(type == 0 ? "anything" : classAt(type));
        }
        int attributes = code.readUnsignedShort();
        for (int a = 0; a < attributes; a++) {
            boolean hasLines = text(code.readUnsignedShort()).equals("LineNumberTable");
            byte[] table = code.readNBytes(code.readInt());
            if (hasLines) {
                body.lines = lines(table);
            }
        }
    }

    private static int lines(byte[] table) {
        int first = Integer.MAX_VALUE;
        int last = 0;
        for (int i = 2; i < table.length; i += 4) {
            first = Math.min(first, two(table, i + 2));
            last = Math.max(last, two(table, i + 2));
        }
        return last - first + 1;
    }

    private void readOperations(Body body, byte[] code) {
        int at = 0;
        while (at < code.length) {
            int operation = code[at] & 255;
            body.operations.add(operation);
            if (operation >= 182 && operation <= 185) {
                body.calls.add(String.join("", memberAt(two(code, at + 1))));
            }
            at += size(code, at);
        }
    }

    private static int size(byte[] code, int at) {
        int operation = code[at] & 255;
        int switchAt = at + 4 - at % 4;
        if (operation == TABLESWITCH) {
            int cases = four(code, switchAt + 8) - four(code, switchAt + 4) + 1;
            return switchAt - at + 12 + 4 * cases;
        }
        if (operation == LOOKUPSWITCH) {
            return switchAt - at + 8 + 8 * four(code, switchAt + 4);
        }
        if (operation == WIDE) {
            return (code[at + 1] & 255) == IINC ? 6 : 4;
        }
        return sizeOf(operation);
    }

    private static int sizeOf(int operation) {
        if (operation == 16 || operation == 18 || operation >= 21 && operation <= 25
                || operation >= 54 && operation <= 58 || operation == 169 || operation == 188) {
            return 2;
        }
        if (operation == 17 || operation == 19 || operation == 20 || operation == IINC
                || operation >= 153 && operation <= 168 || operation >= 178 && operation <= 184 || operation == 187
                || operation == 189 || operation == 192 || operation == 193 || operation == 198 || operation == 199) {
            return 3;
        }
        if (operation == 197) {
            return 4;
        }
        return operation >= 185 && operation <= 186 || operation >= 200 ? 5 : 1;
    }

    private static int two(byte[] bytes, int at) {
        return (bytes[at] & 255) << 8 | bytes[at + 1] & 255;
    }

    private static int four(byte[] bytes, int at) {
        return two(bytes, at) << 16 | two(bytes, at + 2);
    }
}
