import java.io.DataInputStream;
import java.io.IOException;
import java.io.InputStream;
import java.util.ArrayList;
import java.util.LinkedHashMap;
import java.util.List;
import java.util.Map;

/** What the methods of a compiled class do: whom they call, and by which instructions. */
final class ClassFile {
    static final int NEW = 187;
    static final int NEW_ARRAY = 188;
    static final int NEW_ARRAY_OF_OBJECTS = 189;
    static final int NEW_ARRAY_OF_ARRAYS = 197;
    static final int THROW = 191;
    static final int CAST = 192;
    static final int LOCK = 194;
    static final int CALL_MADE_LATE = 186;

    /** One method, named as Class.name(types). */
    static final class Body {
        final List<String> calls = new ArrayList<>();
        final List<Integer> instructions = new ArrayList<>();
        int flags;
        int handlers;
    }

    final Map<String, Body> bodies = new LinkedHashMap<>();
    private final String name;
    private Object[] constants;

    private ClassFile(Class<?> type) {
        this.name = type.getName();
    }

    static ClassFile of(Class<?> type) throws IOException {
        ClassFile file = new ClassFile(type);
        try (InputStream in = type.getResourceAsStream("/" + type.getName() + ".class")) {
            file.read(new DataInputStream(in));
        }
        return file;
    }

    private void read(DataInputStream in) throws IOException {
        in.skipBytes(8);
        readConstants(in);
        in.skipBytes(6);
        in.skipBytes(2 * in.readUnsignedShort());
        for (int fields = in.readUnsignedShort(); fields > 0; fields--) {
            in.skipBytes(6);
            skipAttributes(in);
        }
        for (int methods = in.readUnsignedShort(); methods > 0; methods--) {
            readMethod(in);
        }
    }

    private void readConstants(DataInputStream in) throws IOException {
        constants = new Object[in.readUnsignedShort()];
        for (int i = 1; i < constants.length; i++) {
            int tag = in.readUnsignedByte();
            switch (tag) {
                case 1: constants[i] = in.readUTF(); break;
                case 7: case 8: case 16: case 19: case 20: constants[i] = new int[] {in.readUnsignedShort()}; break;
                case 3: case 4: in.readInt(); break;
                case 5: case 6: in.readLong(); i++; break;
                case 15: in.skipBytes(3); break;
                default: constants[i] = new int[] {in.readUnsignedShort(), in.readUnsignedShort()}; break;
            }
        }
    }

    private static void skipAttributes(DataInputStream in) throws IOException {
        for (int left = in.readUnsignedShort(); left > 0; left--) {
            in.skipBytes(2);
            in.skipNBytes(in.readInt());
        }
    }

    private String text(int constant) {
        return (String) constants[constant];
    }

    private int[] pair(int constant) {
        return (int[]) constants[constant];
    }

    private String called(int constant) {
        int[] reference = pair(constant);
        int[] nameAndType = pair(reference[1]);
        String owner = text(pair(reference[0])[0]).replace('/', '.');
        return owner + "." + text(nameAndType[0]) + text(nameAndType[1]);
    }

    private void readMethod(DataInputStream in) throws IOException {
        Body body = new Body();
        body.flags = in.readUnsignedShort();
        bodies.put(name + "." + text(in.readUnsignedShort()) + text(in.readUnsignedShort()), body);
        for (int left = in.readUnsignedShort(); left > 0; left--) {
            boolean code = text(in.readUnsignedShort()).equals("Code");
            int length = in.readInt();
            if (code) {
                in.skipBytes(4);
                readCode(in.readNBytes(in.readInt()), body);
                body.handlers = in.readUnsignedShort();
                in.skipBytes(8 * body.handlers);
                skipAttributes(in);
            } else {
                in.skipNBytes(length);
            }
        }
    }

    private void readCode(byte[] code, Body body) {
        for (int at = 0; at < code.length; at += length(code, at)) {
            int instruction = code[at] & 255;
            body.instructions.add(instruction);
            if (instruction >= 182 && instruction <= 185) {
                body.calls.add(called((code[at + 1] & 255) << 8 | code[at + 2] & 255));
            }
        }
    }

    private static int length(byte[] code, int at) {
        int i = code[at] & 255;
        int padded = (at + 4 & -4) - at;
        if (i == 170) {
            return padded + 12 + 4 * (number(code, at + padded + 8) - number(code, at + padded + 4) + 1);
        } else if (i == 171) {
            return padded + 8 + 8 * number(code, at + padded + 4);
        } else if (i == 196) {
            return (code[at + 1] & 255) == 132 ? 6 : 4;
        } else if (i == 185 || i == 186 || i >= 200) {
            return 5;
        } else if (i == 197) {
            return 4;
        }
        boolean three = i == 17 || i == 19 || i == 20 || i == 132 || i >= 153 && i <= 168 || i >= 178 && i <= 184
            || i == 187 || i == 189 || i == 192 || i == 193 || i >= 198;
        boolean two = i == 16 || i == 18 || i >= 21 && i <= 25 || i >= 54 && i <= 58 || i == 169 || i == 188;
        return three ? 3 : two ? 2 : 1;
    }

    private static int number(byte[] code, int at) {
        return (code[at] & 255) << 24 | (code[at + 1] & 255) << 16 | (code[at + 2] & 255) << 8 | code[at + 3] & 255;
    }
}
