import java.io.ByteArrayInputStream;
import java.io.DataInputStream;
import java.io.IOException;
import java.io.InputStream;
import java.util.ArrayList;
import java.util.List;

/** What a compiled class does, method by method: whom it calls, what it makes, whether it throws or catches. */
final class ClassFile {
    /** Names are told as Class.name with the types behind it; made: how many objects and arrays its lines make. */
    record Code(String name, List<String> calls, int made, boolean throwsOrCatches) {
    }

    private static final int UTF8 = 1, LONG = 5, DOUBLE = 6, CLASS = 7, METHOD_HANDLE = 15;
    private static final int TABLESWITCH = 170, LOOKUPSWITCH = 171, ATHROW = 191, WIDE = 196, IINC = 132;
    private final String[] texts;
    private final int[] first;
    private final int[] second;
    final List<Code> methods = new ArrayList<>();

    ClassFile(Class<?> type) throws IOException {
        byte[] bytes;
        try (InputStream in = type.getResourceAsStream(type.getName() + ".class")) {
            bytes = in.readAllBytes();
        }
        DataInputStream in = new DataInputStream(new ByteArrayInputStream(bytes));
        in.skipBytes(8);
        int count = in.readUnsignedShort();
        texts = new String[count];
        first = new int[count];
        second = new int[count];
        readConstants(in, count);
        in.skipBytes(2);
        String name = className(in.readUnsignedShort());
        in.skipBytes(2);
        in.skipBytes(2 * in.readUnsignedShort());
        int fields = in.readUnsignedShort();
        for (int i = 0; i < fields; i++) {
            in.skipBytes(6);
            skipAttributes(in);
        }
        int many = in.readUnsignedShort();
        for (int i = 0; i < many; i++) {
            readMethod(in, name);
        }
    }

    private void readConstants(DataInputStream in, int count) throws IOException {
        for (int i = 1; i < count; i++) {
            int tag = in.readUnsignedByte();
            if (tag == UTF8) {
                texts[i] = in.readUTF();
            } else if (tag == METHOD_HANDLE) {
                in.skipBytes(3);
            } else if (tag == CLASS || tag == 8 || tag == 16 || tag == 19 || tag == 20) {
                first[i] = in.readUnsignedShort();
            } else {
                first[i] = in.readUnsignedShort();
                second[i] = in.readUnsignedShort();
                if (tag == LONG || tag == DOUBLE) {
                    in.skipBytes(4);
                    i++;
                }
            }
        }
    }

    private static void skipAttributes(DataInputStream in) throws IOException {
        int many = in.readUnsignedShort();
        for (int i = 0; i < many; i++) {
            in.skipBytes(2);
            in.skipBytes(in.readInt());
        }
    }

    private String className(int constant) {
        return texts[first[constant]];
    }

    private String member(int constant) {
        int nameAndType = second[constant];
        return className(first[constant]) + "." + texts[first[nameAndType]] + texts[second[nameAndType]];
    }

    private void readMethod(DataInputStream in, String owner) throws IOException {
        in.skipBytes(2);
        String name = owner + "." + texts[in.readUnsignedShort()];
        name += texts[in.readUnsignedShort()];
        int attributes = in.readUnsignedShort();
        for (int i = 0; i < attributes; i++) {
            String attribute = texts[in.readUnsignedShort()];
            int length = in.readInt();
            if (!attribute.equals("Code")) {
                in.skipBytes(length);
                continue;
            }
            in.skipBytes(4);
            byte[] code = new byte[in.readInt()];
            in.readFully(code);
            int caught = in.readUnsignedShort();
            in.skipBytes(8 * caught);
            skipAttributes(in);
            methods.add(readCode(name, code, caught > 0));
        }
    }

    private Code readCode(String name, byte[] code, boolean catches) {
        List<String> calls = new ArrayList<>();
        int made = 0;
        boolean threw = catches;
        for (int at = 0; at < code.length; at += length(code, at)) {
            int op = code[at] & 255;
            if (op >= 182 && op <= 185) {
                calls.add(member(two(code, at + 1)));
            } else if (op == 186) {
                calls.add("invokedynamic");
            }
            made += op >= 187 && op <= 189 || op == 197 ? 1 : 0;
            threw |= op == ATHROW;
        }
        return new Code(name, calls, made, threw);
    }

    private static int two(byte[] code, int at) {
        return (code[at] & 255) << 8 | code[at + 1] & 255;
    }

    private static int four(byte[] code, int at) {
        return two(code, at) << 16 | two(code, at + 2);
    }

    private static int length(byte[] code, int at) {
        int op = code[at] & 255;
        int aligned = (at + 4) / 4 * 4;
        if (op == TABLESWITCH) {
            return aligned + 12 + 4 * (four(code, aligned + 8) - four(code, aligned + 4) + 1) - at;
        }
        if (op == LOOKUPSWITCH) {
            return aligned + 8 + 8 * four(code, aligned + 4) - at;
        }
        if (op == WIDE) {
            return (code[at + 1] & 255) == IINC ? 6 : 4;
        }
        if (op == 185 || op == 186 || op == 200 || op == 201) {
            return 5;
        }
        if (op == 197) {
            return 4;
        }
        if (op == 16 || op == 18 || op >= 21 && op <= 25 || op >= 54 && op <= 58 || op == 169 || op == 188) {
            return 2;
        }
        boolean three = op == 17 || op == 19 || op == 20 || op == IINC || op >= 153 && op <= 168 || op >= 178 && op <= 184
            || op == 187 || op == 189 || op == 192 || op == 193 || op == 198 || op == 199;
        return three ? 3 : 1;
    }
}
