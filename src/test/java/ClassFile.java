import java.io.DataInputStream;
import java.io.IOException;
import java.io.InputStream;
import java.util.ArrayList;
import java.util.List;

/** What a compiled class refers to and which methods its methods call, read from its class file. */
final class ClassFile {
    /** A method with the constants that its instructions name, in their order; lines are 0 if it has none. */
    record Method(String name, List<String> calls, boolean isThrowing, List<String> caught, int firstLine, int lastLine) { }

    private static final int WIDE = 0xc4, TABLE_SWITCH = 0xaa, LOOKUP_SWITCH = 0xab, THROW = 0xbf, FIRST_CALL = 0xb6, LAST_CALL = 0xba;

    final String name;
    /** Classes, fields and methods that the class names: OWNER, or OWNER.NAME:TYPE. */
    final List<String> references = new ArrayList<>();
    final List<String> texts = new ArrayList<>();
    final List<Method> methods = new ArrayList<>();
    private final String[] constants;

    ClassFile(Class<?> type) throws IOException {
        name = type.getName();
        try (InputStream bytes = type.getResourceAsStream("/" + name + ".class");
                DataInputStream in = new DataInputStream(bytes)) {
            in.readInt();
            in.readInt();
            constants = readConstants(in);
            in.readUnsignedShort();
            in.readUnsignedShort();
            in.readUnsignedShort();
            in.skipBytes(2 * in.readUnsignedShort());
            for (int fields = in.readUnsignedShort(); fields > 0; fields--) {
                in.skipBytes(6);
                skipAttributes(in);
            }
            for (int left = in.readUnsignedShort(); left > 0; left--) {
                methods.add(readMethod(in));
            }
        }
    }

    private String[] readConstants(DataInputStream in) throws IOException {
        int count = in.readUnsignedShort();
        int[][] parts = new int[count][];
        String[] told = new String[count];
        for (int i = 1; i < count; i++) {
            int tag = in.readUnsignedByte();
            switch (tag) {
                case 1 -> told[i] = in.readUTF();
                case 7, 8, 16, 19, 20 -> parts[i] = new int[] {tag, in.readUnsignedShort()};
                case 15 -> parts[i] = new int[] {tag, in.readUnsignedByte(), in.readUnsignedShort()};
                case 3, 4 -> in.readInt();
                case 5, 6 -> {
                    in.readLong();
                    i++;
                }
                default -> parts[i] = new int[] {tag, in.readUnsignedShort(), in.readUnsignedShort()};
            }
        }
        for (int tag : new int[] {7, 8, 12, 9, 10, 11, 17, 18}) {
            for (int i = 1; i < count; i++) {
                if (parts[i] != null && parts[i][0] == tag) {
                    told[i] = join(tag, parts[i], told);
                }
            }
        }
        return told;
    }

    private String join(int tag, int[] part, String[] told) {
        if (tag == 7) {
            references.add(told[part[1]]);
            return told[part[1]];
        }
        if (tag == 8) {
            texts.add(told[part[1]]);
            return "a text";
        }
        if (tag == 12) {
            return told[part[1]] + ":" + told[part[2]];
        }
        if (tag >= 17) {
            return "dynamic." + told[part[2]];
        }
        references.add(told[part[1]] + "." + told[part[2]]);
        return told[part[1]] + "." + told[part[2]];
    }

    private static void skipAttributes(DataInputStream in) throws IOException {
        for (int left = in.readUnsignedShort(); left > 0; left--) {
            in.readUnsignedShort();
            in.skipBytes(in.readInt());
        }
    }

    private Method readMethod(DataInputStream in) throws IOException {
        in.readUnsignedShort();
        String its = name + "." + constants[in.readUnsignedShort()] + ":" + constants[in.readUnsignedShort()];
        Method method = new Method(its, List.of(), false, List.of(), 0, 0);
        for (int left = in.readUnsignedShort(); left > 0; left--) {
            String attribute = constants[in.readUnsignedShort()];
            int length = in.readInt();
            if (attribute.equals("Code")) {
                method = readCode(in, its);
            } else {
                in.skipBytes(length);
            }
        }
        return method;
    }

    private Method readCode(DataInputStream in, String its) throws IOException {
        in.readInt();
        byte[] code = new byte[in.readInt()];
        in.readFully(code);
        List<String> calls = new ArrayList<>();
        boolean isThrowing = false;
        for (int at = 0; at < code.length; at += lengthAt(code, at)) {
            int operation = code[at] & 255;
            isThrowing |= operation == THROW;
            if (operation >= FIRST_CALL && operation <= LAST_CALL) {
                calls.add(constants[(code[at + 1] & 255) << 8 | code[at + 2] & 255]);
            }
        }
        List<String> caught = new ArrayList<>();
        for (int left = in.readUnsignedShort(); left > 0; left--) {
            in.skipBytes(6);
            int type = in.readUnsignedShort();
            caught.add(type == 0 ? "finally" : constants[type]);
        }
        int first = Integer.MAX_VALUE;
        int last = 0;
        for (int left = in.readUnsignedShort(); left > 0; left--) {
            String attribute = constants[in.readUnsignedShort()];
            int length = in.readInt();
            if (!attribute.equals("LineNumberTable")) {
                in.skipBytes(length);
                continue;
            }
            for (int lines = in.readUnsignedShort(); lines > 0; lines--) {
                in.readUnsignedShort();
                int line = in.readUnsignedShort();
                first = Math.min(first, line);
                last = Math.max(last, line);
            }
        }
        return new Method(its, calls, isThrowing, caught, last == 0 ? 0 : first, last);
    }

    private static int intAt(byte[] code, int at) {
        return (code[at] & 255) << 24 | (code[at + 1] & 255) << 16 | (code[at + 2] & 255) << 8 | code[at + 3] & 255;
    }

    private static int lengthAt(byte[] code, int at) {
        int operation = code[at] & 255;
        int aligned = at / 4 * 4 + 4;
        if (operation == TABLE_SWITCH) {
            return aligned - at + 12 + 4 * (intAt(code, aligned + 8) - intAt(code, aligned + 4) + 1);
        }
        if (operation == LOOKUP_SWITCH) {
            return aligned - at + 8 + 8 * intAt(code, aligned + 4);
        }
        if (operation == WIDE) {
            return (code[at + 1] & 255) == 0x84 ? 6 : 4;
        }
        // From which operation on the length is another one.
        int[][] lengths = {{0x00, 1}, {0x10, 2}, {0x11, 3}, {0x12, 2}, {0x13, 3}, {0x15, 2}, {0x1a, 1}, {0x36, 2}, {0x3b, 1}, {0x84, 3},
            {0x85, 1}, {0x99, 3}, {0xa9, 2}, {0xac, 1}, {0xb2, 3}, {0xb9, 5}, {0xbb, 3}, {0xbc, 2}, {0xbd, 3}, {0xbe, 1}, {0xc0, 3},
            {0xc2, 1}, {0xc5, 4}, {0xc6, 3}, {0xc8, 5}};
        int length = 1;
        for (int[] from : lengths) {
            length = operation >= from[0] ? from[1] : length;
        }
        return length;
    }
}
