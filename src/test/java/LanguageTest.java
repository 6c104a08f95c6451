import java.io.DataInputStream;
import java.io.IOException;
import java.io.InputStream;
import java.util.ArrayList;
import java.util.List;
import java.util.Set;
import java.util.TreeSet;

/** What the compiled class uses of the library, held against LANGUAGE.md, rules 4 and 6, and what the document throws. */
public final class LanguageTest {
    private static final Set<String> MAY_CALL = Set.of(
        "java/lang/Object.<init>",
        "java/lang/Integer.compare", "java/lang/Long.compare", "java/lang/Math.max", "java/lang/Math.min",
        "java/lang/NegativeArraySizeException.<init>", "java/lang/ArrayIndexOutOfBoundsException.<init>",
        "java/lang/NullPointerException.<init>", "java/lang/ArithmeticException.<init>");

    public static void main(String[] args) throws IOException {
        Due due = new Due();
        List<Class<?>> classes = new ArrayList<>(List.of(OrderJudge.class.getDeclaredClasses()));
        classes.add(OrderJudge.class);
        due.is("some twelve classes at most", classes.size() <= 12 ? 1 : 0, 1);
        for (Class<?> c : classes) {
            String file = c.getName() + ".class";
            try (InputStream in = OrderJudge.class.getResourceAsStream(file)) {
                for (String called : calledBy(new DataInputStream(in))) {
                    boolean may = called.startsWith("OrderJudge") || MAY_CALL.contains(called);
                    due.is(file + " calls " + called, may ? 1 : 0, 1);
                }
            }
        }
        due.end();
    }

    /** The methods that a class file's table of constants names, as class.method. */
    private static Set<String> calledBy(DataInputStream in) throws IOException {
        in.readInt();
        in.readInt();
        int size = in.readUnsignedShort();
        String[] texts = new String[size];
        int[][] pairs = new int[size][2];
        boolean[] isMethod = new boolean[size];
        for (int i = 1; i < size; i++) {
            int tag = in.readUnsignedByte();
            switch (tag) {
                case 1: texts[i] = in.readUTF(); break;
                case 3: case 4: in.readInt(); break;
                case 5: case 6: in.readLong(); i++; break;
                case 7: case 8: case 16: case 19: case 20: pairs[i][0] = in.readUnsignedShort(); break;
                case 15: in.readUnsignedByte(); in.readUnsignedShort(); break;
                default:
                    pairs[i][0] = in.readUnsignedShort();
                    pairs[i][1] = in.readUnsignedShort();
                    isMethod[i] = tag == 10 || tag == 11 || tag == 17 || tag == 18;
            }
        }
        Set<String> called = new TreeSet<>();
        for (int i = 1; i < size; i++) {
            if (isMethod[i]) {
                called.add(texts[pairs[pairs[i][0]][0]] + "." + texts[pairs[pairs[i][1]][0]]);
            }
        }
        return called;
    }
}
