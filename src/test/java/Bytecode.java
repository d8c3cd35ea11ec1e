import java.io.DataInputStream;
import java.io.IOException;
import java.io.InputStream;
import java.util.ArrayList;
import java.util.BitSet;
import java.util.LinkedHashMap;
import java.util.List;
import java.util.Map;
import java.util.Set;
import java.util.TreeSet;

/** What the compiled methods of some classes do: which methods they call, and by which instructions they work. */
final class Bytecode {
    static final int NEW = 187, NEWARRAY = 188, ANEWARRAY = 189, MULTIANEWARRAY = 197;
    static final int INVOKEDYNAMIC = 186, ATHROW = 191, CHECKCAST = 192, MONITORENTER = 194;
    private static final int TABLESWITCH = 170, LOOKUPSWITCH = 171, INVOKEVIRTUAL = 182, INVOKEINTERFACE = 185;
    private static final int WIDE = 196, IINC = 132;

    /** A method; calls names the methods that it calls, each by "class.name" and its descriptor. */
    record Body(String name, int access, Set<String> calls, BitSet instructions, int handlers) {
    }

    private final Map<String, Body> bodies = new LinkedHashMap<>();
    private Object[] constants;

    Bytecode(List<Class<?>> classes) throws IOException {
        for (Class<?> each : classes) {
            String file = each.getName() + ".class";
            try (InputStream stream = each.getResourceAsStream(file)) {
                readClass(new DataInputStream(stream));
            }
        }
    }

    Map<String, Body> bodies() {
        return bodies;
    }

    private void readClass(DataInputStream in) throws IOException {
        in.skipNBytes(8);
        readConstants(in);
        in.skipNBytes(2);
        String owner = className(in.readUnsignedShort());
        in.skipNBytes(2);
        in.skipNBytes(2L * in.readUnsignedShort());
        int fields = in.readUnsignedShort();
        for (int f = 0; f < fields; f++) {
            in.skipNBytes(6);
            skipAttributes(in);
        }
        int methods = in.readUnsignedShort();
        for (int m = 0; m < methods; m++) {
            readMethod(in, owner);
        }
    }

    private void readConstants(DataInputStream in) throws IOException {
        constants = new Object[in.readUnsignedShort()];
        for (int c = 1; c < constants.length; c++) {
            int tag = in.readUnsignedByte();
            switch (tag) {
                case 1 -> constants[c] = in.readUTF();
                case 3, 4 -> in.skipNBytes(4);
                case 5, 6 -> {
                    in.skipNBytes(8);
                    c++;
                }
                case 7, 8, 16, 19, 20 -> constants[c] = in.readUnsignedShort();
                case 15 -> in.skipNBytes(3);
                default -> constants[c] = new int[] {in.readUnsignedShort(), in.readUnsignedShort()};
            }
        }
    }

    private String className(int constant) {
        return (String) constants[(Integer) constants[constant]];
    }

    /** "class.name" and the descriptor of the method that stands there among the constants. */
    private String methodName(int constant) {
        int[] method = (int[]) constants[constant];
        int[] nameAndType = (int[]) constants[method[1]];
        return className(method[0]) + "." + constants[nameAndType[0]] + constants[nameAndType[1]];
    }

    private static void skipAttributes(DataInputStream in) throws IOException {
        int attributes = in.readUnsignedShort();
        for (int a = 0; a < attributes; a++) {
            in.skipNBytes(2);
            in.skipNBytes(in.readInt());
        }
    }

    private void readMethod(DataInputStream in, String owner) throws IOException {
        int access = in.readUnsignedShort();
        String name = owner + "." + constants[in.readUnsignedShort()] + constants[in.readUnsignedShort()];
        int attributes = in.readUnsignedShort();
        for (int a = 0; a < attributes; a++) {
            boolean isCode = constants[in.readUnsignedShort()].equals("Code");
            int length = in.readInt();
            if (isCode) {
                in.skipNBytes(4);
                byte[] code = in.readNBytes(in.readInt());
                int handlers = in.readUnsignedShort();
                in.skipNBytes(8L * handlers);
                skipAttributes(in);
                Body body = new Body(name, access, new TreeSet<>(), new BitSet(), handlers);
                walk(code, body);
                bodies.put(name, body);
            } else {
                in.skipNBytes(length);
            }
        }
    }

    private void walk(byte[] code, Body body) {
        int at = 0;
        while (at < code.length) {
            int instruction = code[at] & 255;
            body.instructions().set(instruction);
            if (instruction >= INVOKEVIRTUAL && instruction <= INVOKEINTERFACE) {
                body.calls().add(methodName((code[at + 1] & 255) << 8 | code[at + 2] & 255));
            }
            at += length(code, at, instruction);
        }
    }

    /** How many bytes an instruction has with what belongs to it. */
    private static int length(byte[] code, int at, int instruction) {
        if (instruction == TABLESWITCH || instruction == LOOKUPSWITCH) {
            int aligned = (at + 4) / 4 * 4;
            int rest = instruction == TABLESWITCH
                ? 12 + 4 * (number(code, aligned + 8) - number(code, aligned + 4) + 1)
                : 8 + 8 * number(code, aligned + 4);
            return aligned - at + rest;
        }
        if (instruction == WIDE) {
            return (code[at + 1] & 255) == IINC ? 6 : 4;
        }
        if (instruction == 16 || instruction == 18 || instruction == NEWARRAY || instruction == 169
                || isWithin(instruction, 21, 25) || isWithin(instruction, 54, 58)) {
            return 2;
        }
        if (instruction == 17 || instruction == 19 || instruction == 20 || instruction == IINC
                || isWithin(instruction, 153, 168) || isWithin(instruction, 178, 184) || isWithin(instruction, 198, 199)
                || isWithin(instruction, 192, 193) || instruction == NEW || instruction == ANEWARRAY) {
            return 3;
        }
        if (instruction == MULTIANEWARRAY) {
            return 4;
        }
        return isWithin(instruction, 185, 186) || isWithin(instruction, 200, 201) ? 5 : 1;
    }

    private static boolean isWithin(int number, int first, int last) {
        return number >= first && number <= last;
    }

    private static int number(byte[] code, int at) {
        return (code[at] & 255) << 24 | (code[at + 1] & 255) << 16 | (code[at + 2] & 255) << 8 | code[at + 3] & 255;
    }
}
