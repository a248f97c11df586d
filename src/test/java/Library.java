import java.io.DataInputStream;
import java.io.IOException;
import java.io.InputStream;
import java.util.Set;
import java.util.TreeSet;

/** Which methods of the library a compiled class uses, as its constant pool tells them. */
final class Library {
    private static final int TEXT = 1, INT = 3, FLOAT = 4, LONG = 5, DOUBLE = 6, CLASS = 7, STRING = 8, FIELD = 9,
        METHOD = 10, INTERFACE_METHOD = 11, NAME_AND_TYPE = 12, HANDLE = 15, METHOD_TYPE = 16, DYNAMIC = 18;

    private final int[] tags;
    private final int[] firsts;
    private final int[] seconds;
    private final String[] texts;

    private Library(DataInputStream in) throws IOException {
        in.readInt();
        in.readInt();
        int n = in.readUnsignedShort();
        tags = new int[n];
        firsts = new int[n];
        seconds = new int[n];
        texts = new String[n];
        for (int i = 1; i < n; i += tags[i] == LONG || tags[i] == DOUBLE ? 2 : 1) {
            tags[i] = in.readUnsignedByte();
            read(in, i);
        }
    }

    private void read(DataInputStream in, int i) throws IOException {
        switch (tags[i]) {
            case TEXT -> texts[i] = in.readUTF();
            case INT, FLOAT -> in.readInt();
            case LONG, DOUBLE -> in.readLong();
            case CLASS, STRING, METHOD_TYPE -> firsts[i] = in.readUnsignedShort();
            case FIELD, METHOD, INTERFACE_METHOD, NAME_AND_TYPE, DYNAMIC -> {
                firsts[i] = in.readUnsignedShort();
                seconds[i] = in.readUnsignedShort();
            }
            case HANDLE -> {
                firsts[i] = in.readUnsignedByte();
                seconds[i] = in.readUnsignedShort();
            }
            default -> throw new IOException("constant of tag " + tags[i]);
        }
    }

    /** As java/lang/Math.max; what is made by lambdas, method references and + of texts as dynamic.name. */
    static Set<String> usedBy(Class<?> c, String own) throws IOException {
        Set<String> used = new TreeSet<>();
        try (InputStream in = c.getResourceAsStream(c.getName() + ".class")) {
            Library pool = new Library(new DataInputStream(in));
            for (int i = 1; i < pool.tags.length; i++) {
                if (pool.tags[i] == METHOD || pool.tags[i] == INTERFACE_METHOD || pool.tags[i] == DYNAMIC) {
                    used.add(pool.ownerOf(i) + "." + pool.texts[pool.firsts[pool.seconds[i]]]);
                }
            }
        }
        used.removeIf(name -> name.startsWith(own));
        return used;
    }

    private String ownerOf(int i) {
        return tags[i] == DYNAMIC ? "dynamic" : texts[firsts[firsts[i]]];
    }
}
