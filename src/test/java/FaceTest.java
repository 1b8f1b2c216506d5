import java.io.IOException;
import java.lang.reflect.Constructor;
import java.lang.reflect.Field;
import java.lang.reflect.Method;
import java.lang.reflect.Modifier;
import java.nio.file.Files;
import java.nio.file.Path;
import java.util.List;
import java.util.Set;
import java.util.TreeSet;
import java.util.regex.Matcher;
import java.util.regex.Pattern;

/** The public face, and those rules of LANGUAGE.md that can be read off the class or its text. */
public final class FaceTest {
    private static final Check CHECK = new Check("FaceTest");
    private static final String FACE = """
        agreed(int,int):boolean alike():int answers(int,int):int back():int bottom():long bury(int):int days(int):int
        add(int,int,int):int differ(int,int):int fall(int,boolean):boolean fault(int):int feed(int,int,int,int,int):int
        fewestFalls(int,int):int fresh(int):int get(int,int,int):int got(int):int hand():int hints(int):int
        holders(int,int):int isDone():int late(int,int):int like(int,int,int):int live(int):int lived(int):int load(int):int
        lost(int):int mark():int moved(int):int night(int,int):int nights(int):int odds(int,int,int):boolean
        part(int):boolean partOf(int,int,int):int places(int):int pour(int,int,int,int,int):boolean
        put(int,int,int,int):int reach(int,int):int read(int,int):long root(int):int row(int,int):int safe(int,int):int
        seen(int,int,int):int shelf(int):int status():int strike(int,int,int):int ticket(int,int):int told(int):int
        top():long tray(int,int,int):boolean twin(int,int,int,int):int twins(int,int):int wipe(int):boolean
        write(int,int,long):boolean""";

    public static void main(String[] args) throws IOException {
        face();
        for (Class<?> inner : TwinShelf.class.getDeclaredClasses()) {
            insideClass(inner);
        }
        CHECK.due("some twelve classes", TwinShelf.class.getDeclaredClasses().length <= 12, true);
        text(Files.readString(Path.of("src/main/java/TwinShelf.java")));
        CHECK.end();
    }

    private static void face() {
        Set<String> due = new TreeSet<>(List.of(FACE.split("\\s+")));
        Set<String> found = new TreeSet<>();
        for (Method m : TwinShelf.class.getDeclaredMethods()) {
            if (Modifier.isPublic(m.getModifiers())) {
                found.add(signature(m));
                CHECK.due(m.getName() + " is no static one", Modifier.isStatic(m.getModifiers()), false);
            } else {
                CHECK.due(m.getName() + " bears a name of the face", isFaces(m), false);
                CHECK.due(m.getName() + " is private", Modifier.isPrivate(m.getModifiers()) || m.isSynthetic(), true);
            }
        }
        CHECK.due("the face " + found, found.equals(due), true);
        Constructor<?>[] made = TwinShelf.class.getDeclaredConstructors();
        CHECK.due("one constructor", made.length, 1);
        CHECK.due("a public one", Modifier.isPublic(made[0].getModifiers()), true);
        CHECK.due("a final class", Modifier.isFinal(TwinShelf.class.getModifiers()), true);
        for (Field f : TwinShelf.class.getDeclaredFields()) {
            boolean isPublic = Modifier.isPublic(f.getModifiers());
            CHECK.due("field " + f.getName(), isPublic, f.getName().equals("NONE"));
            CHECK.due("field " + f.getName(), isPublic || Modifier.isPrivate(f.getModifiers()), true);
        }
        CHECK.due("NONE", TwinShelf.NONE, -1);
        fields(TwinShelf.class);
    }

    private static String signature(Method m) {
        StringBuilder s = new StringBuilder(m.getName()).append('(');
        for (Class<?> type : m.getParameterTypes()) {
            s.append(s.charAt(s.length() - 1) == '(' ? "" : ",").append(type.getName());
        }
        return s.append("):").append(m.getReturnType().getName()).toString();
    }

    private static void fields(Class<?> type) {
        int own = 0;
        for (Field f : type.getDeclaredFields()) {
            boolean isStatic = Modifier.isStatic(f.getModifiers());
            own += isStatic ? 0 : 1;
            CHECK.due("static " + f.getName() + " is final", !isStatic || Modifier.isFinal(f.getModifiers()), true);
        }
        CHECK.due("fields of " + type.getName() + ": " + own, own <= 20, true);
    }

    private static boolean isFaces(Method m) {
        return FACE.matches("(?s).*\\b" + Pattern.quote(m.getName()) + "\\(.*");
    }

    private static void insideClass(Class<?> inner) {
        CHECK.due(inner + " is static", Modifier.isStatic(inner.getModifiers()), true);
        fields(inner);
        for (Method m : inner.getDeclaredMethods()) {
            CHECK.due(inner.getName() + "." + m.getName() + " bears a name of the face", isFaces(m), false);
            CHECK.due(m.getName() + " has seven parameters at most", m.getParameterCount() <= 7, true);
        }
    }

    private static void text(String source) {
        String code = source.replaceAll("(?s)/\\*.*?\\*/", "").replaceAll("//[^\n]*", "");
        String[] ruledOut = {"throw", "throws", "try", "catch", "finally", "synchronized", "assert", "package", "Exception",
            "System\\.(?!arraycopy)\\w+", "->", "::", "\\w+Exact", "hashCode", "toString", "instanceof", "Object",
            "Random", "double", "float", "import (?!java\\.util\\.Arrays;)"};
        for (String word : ruledOut) {
            Matcher m = Pattern.compile((Character.isLetter(word.charAt(0)) ? "\\b" : "") + word).matcher(code);
            CHECK.due("'" + word + "' is in the text", m.find(), false);
        }
        for (int i = 0; i < source.length(); i++) {
            if (source.charAt(i) > 126) {
                CHECK.due("a sign above 126 at " + i, 1, 0);
            }
        }
        methodLengths(code);
    }

    /** Lines from a method's head to the brace that ends it, by their indents. */
    private static void methodLengths(String code) {
        String[] lines = code.split("\n");
        for (int i = 0; i < lines.length; i++) {
            if (lines[i].matches("\\s+[a-zA-Z].*\\) \\{") && !lines[i].matches("\\s+(if|for|while|switch|else).*")) {
                String indent = lines[i].replaceAll("\\S.*", "");
                int end = i;
                while (end < lines.length && !lines[end].equals(indent + "}")) {
                    end++;
                }
                CHECK.due("lines of" + lines[i] + " " + (end - i + 1), end - i + 1 <= 60, true);
            }
        }
    }
}
