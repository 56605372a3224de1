import java.io.DataInputStream;
import java.io.IOException;
import java.io.InputStream;
import java.util.Set;
import java.util.TreeSet;

/** The constants of a compiled class: what it names of other classes. */
final class ClassFile {
    private static final int MAGIC = 0xCAFEBABE;
    private static final int TEXT = 1;
    private static final int LONG = 5;
    private static final int DOUBLE = 6;
    private static final int CLASS = 7;
    private static final int FIELD = 9;
    private static final int INTERFACE_METHOD = 11;
    private static final int NAME_AND_TYPE = 12;
    private static final int HANDLE = 15;
    private static final int DYNAMIC = 17;
    private static final int INVOKE_DYNAMIC = 18;

    private final int[] tags;
    private final int[] firsts;
    private final int[] seconds;
    private final String[] texts;

    private ClassFile(DataInputStream in) throws IOException {
        if (in.readInt() != MAGIC) {
            throw new IOException("no class file");
        }
        in.readInt();
        int amount = in.readUnsignedShort();
        tags = new int[amount];
        firsts = new int[amount];
        seconds = new int[amount];
        texts = new String[amount];
        for (int i = 1; i < amount; i++) {
            readConstant(in, i);
            // A long or a double counts twice.
            i += tags[i] == LONG || tags[i] == DOUBLE ? 1 : 0;
        }
    }

    static ClassFile of(Class<?> type) throws IOException {
        try (InputStream in = type.getResourceAsStream("/" + type.getName() + ".class")) {
            if (in == null) {
                throw new IOException("no class file of " + type);
            }
            return new ClassFile(new DataInputStream(in));
        }
    }

    private void readConstant(DataInputStream in, int i) throws IOException {
        tags[i] = in.readUnsignedByte();
        if (tags[i] == TEXT) {
            texts[i] = in.readUTF();
        } else if (tags[i] == LONG || tags[i] == DOUBLE) {
            in.readLong();
        } else if (tags[i] == HANDLE) {
            in.readUnsignedByte();
            in.readUnsignedShort();
        } else if (tags[i] < CLASS) {
            in.readInt();
        } else {
            firsts[i] = in.readUnsignedShort();
            boolean two = tags[i] >= FIELD && tags[i] <= NAME_AND_TYPE
                    || tags[i] == DYNAMIC || tags[i] == INVOKE_DYNAMIC;
            seconds[i] = two ? in.readUnsignedShort() : 0;
        }
    }

    /** Classes, fields and methods that are named, these as Class.name. */
    Set<String> named() {
        Set<String> all = new TreeSet<>();
        for (int i = 1; i < tags.length; i++) {
            if (tags[i] == CLASS) {
                all.add(texts[firsts[i]]);
            } else if (tags[i] >= FIELD && tags[i] <= INTERFACE_METHOD) {
                all.add(texts[firsts[firsts[i]]] + "." + texts[firsts[seconds[i]]]);
            }
        }
        return all;
    }

    /** Whether a lambda, a method reference or texts joined by + stand in it. */
    boolean linksLate() {
        for (int tag : tags) {
            if (tag == DYNAMIC || tag == INVOKE_DYNAMIC) {
                return true;
            }
        }
        return false;
    }
}
