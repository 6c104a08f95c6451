import java.io.DataInputStream;
import java.io.IOException;
import java.io.InputStream;
import java.lang.reflect.Method;
import java.nio.file.Files;
import java.nio.file.Path;
import java.util.ArrayList;
import java.util.List;
import java.util.Set;
import java.util.TreeSet;
import java.util.regex.Pattern;

/**
 * What the compiled class uses of the library, held against LANGUAGE.md, rules 4 and 6, and what the document throws;
 * and what its text must not have.
 */
public final class LanguageTest {
    private static final Set<String> MAY_CALL = Set.of(
        "java/lang/Object.<init>",
        "java/lang/Integer.compare", "java/lang/Long.compare", "java/lang/Math.max", "java/lang/Math.min",
        "java/lang/NegativeArraySizeException.<init>", "java/lang/ArrayIndexOutOfBoundsException.<init>",
        "java/lang/NullPointerException.<init>", "java/lang/ArithmeticException.<init>");

    // Rules 2, 4, 5, 6 and the one file without a package. With no catch no call can answer what the machine throws;
    // double is ruled out by the document: the filter reckons in floats.
    private static final Pattern RULED_OUT = Pattern.compile(
        "\\b(package|import|try|catch|finally|assert|synchronized|volatile|native|protected|double|Object|var|\\w+Exact)\\b"
        + "|->|::|@|\\bstatic\\s*\\{");
    // Calls make nothing (rule 12): what is made stands in a field, in the constructor, or behind throw.
    private static final Pattern MADE = Pattern.compile(
        " +throw new .*| +(private )?final (int|long)\\[] \\w+ = new .*| {8}\\w+ = new [A-Z]\\w+\\((points)?\\);");

    public static void main(String[] args) throws IOException {
        Due due = new Due();
        List<Class<?>> classes = new ArrayList<>(List.of(OrderJudge.class.getDeclaredClasses()));
        classes.add(OrderJudge.class);
        due.is("some twelve classes at most", classes.size() <= 12 ? 1 : 0, 1);
        for (Class<?> c : classes) {
            String file = c.getName() + ".class";
            try (InputStream in = OrderJudge.class.getResourceAsStream(file)) {
                for (String called : calledBy(new DataInputStream(in))) {
                    boolean may = called.startsWith("OrderJudge") || MAY_CALL.contains(called);
                    due.is(file + " calls " + called, may ? 1 : 0, 1);
                }
            }
        }
        text(due);
        parameters(due, classes);
        due.end();
    }

    private static void text(Due due) throws IOException {
        String text = Files.readString(Path.of("src/main/java/OrderJudge.java"));
        String code = text.replaceAll("(?s)/\\*.*?\\*/", "").replaceAll("//[^\n]*", "").replaceAll("\"[^\"]*\"", "");
        due.is("signs 1 to 127 alone", text.matches("[\\x01-\\x7f]*") ? 1 : 0, 1);
        for (String row : code.split("\n")) {
            due.is("ruled out: " + row, RULED_OUT.matcher(row).find() ? 1 : 0, 0);
            due.is("made by a call: " + row, row.contains("new ") && !MADE.matcher(row).matches() ? 1 : 0, 0);
        }
    }

    private static void parameters(Due due, List<Class<?>> classes) {
        for (Class<?> c : classes) {
            for (Method m : c.getDeclaredMethods()) {
                due.is(m + " has seven parameters at most", m.getParameterCount() <= 7 ? 1 : 0, 1);
            }
        }
    }

    /** The methods that a class file's table of constants names, as class.method. */
    private static Set<String> calledBy(DataInputStream in) throws IOException {
        in.readInt();
        in.readInt();
        int size = in.readUnsignedShort();
        String[] texts = new String[size];
        int[][] pairs = new int[size][2];
        boolean[] isMethod = new boolean[size];
        for (int i = 1; i < size; i++) {
            int tag = in.readUnsignedByte();
            switch (tag) {
                case 1: texts[i] = in.readUTF(); break;
                case 3: case 4: in.readInt(); break;
                case 5: case 6: in.readLong(); i++; break;
                case 7: case 8: case 16: case 19: case 20: pairs[i][0] = in.readUnsignedShort(); break;
                case 15: in.readUnsignedByte(); in.readUnsignedShort(); break;
                default:
                    pairs[i][0] = in.readUnsignedShort();
                    pairs[i][1] = in.readUnsignedShort();
                    isMethod[i] = tag == 10 || tag == 11 || tag == 17 || tag == 18;
            }
        }
        Set<String> called = new TreeSet<>();
        for (int i = 1; i < size; i++) {
            if (isMethod[i]) {
                called.add(texts[pairs[pairs[i][0]][0]] + "." + texts[pairs[pairs[i][1]][0]]);
            }
        }
        return called;
    }
}
