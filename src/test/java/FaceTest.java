import java.io.IOException;
import java.lang.reflect.Array;
import java.lang.reflect.Constructor;
import java.lang.reflect.Field;
import java.lang.reflect.Member;
import java.lang.reflect.Method;
import java.lang.reflect.Modifier;
import java.nio.charset.StandardCharsets;
import java.nio.file.Files;
import java.nio.file.Path;
import java.util.ArrayList;
import java.util.HashSet;
import java.util.IdentityHashMap;
import java.util.List;
import java.util.Map;
import java.util.Set;
import java.util.TreeSet;
import java.util.regex.Pattern;

/** The face is the document's, and the source keeps to what of LANGUAGE.md can be seen from outside. */
public final class FaceTest {
    private final Check check = new Check();

    public static void main(String[] args) throws IOException, IllegalAccessException {
        FaceTest test = new FaceTest();
        test.faceIsThatOf(Files.readString(Path.of(args[0]), StandardCharsets.UTF_8));
        test.nothingElseIsSeen();
        test.statesAreNotStatic();
        test.classesAreFew();
        test.aDeskIsSmall();
        test.sourceKeepsTo(Files.readString(Path.of(args[1]), StandardCharsets.ISO_8859_1));
        test.check.end("FaceTest");
    }

    private static String face(Method m) {
        StringBuilder s = new StringBuilder(m.getReturnType().getName()).append(' ').append(m.getName()).append('(');
        for (Class<?> type : m.getParameterTypes()) {
            s.append(type.getName()).append(',');
        }
        return s.append(')').toString();
    }

    private void faceIsThatOf(String document) {
        Set<String> want = new TreeSet<>();
        for (String line : document.substring(0, document.indexOf("## Terms")).split("\n")) {
            String told = line.trim();
            if (told.startsWith("public ") && told.contains("(") && !told.contains("ModeDesk(")) {
                String[] head = told.substring("public ".length(), told.indexOf('(')).split(" ");
                StringBuilder s = new StringBuilder(head[0]).append(' ').append(head[1]).append('(');
                for (String parameter : told.substring(told.indexOf('(') + 1, told.indexOf(')')).split(",")) {
                    s.append(parameter.isBlank() ? "" : parameter.trim().split(" ")[0] + ",");
                }
                want.add(s.append(')').toString());
            }
        }
        Set<String> got = new TreeSet<>();
        for (Method m : ModeDesk.class.getDeclaredMethods()) {
            if (Modifier.isPublic(m.getModifiers()) && !Modifier.isStatic(m.getModifiers())) {
                got.add(face(m));
            }
        }
        check.due("methods of the document", want.size(), 55);
        check.due("the face " + got + " is " + want, got.equals(want), true);
        Constructor<?>[] made = ModeDesk.class.getConstructors();
        check.due("one constructor without parameters", made.length == 1 && made[0].getParameterCount() == 0, true);
        check.due("the class is public and final", ModeDesk.class.getModifiers(), Modifier.PUBLIC | Modifier.FINAL);
        check.due("NONE", ModeDesk.NONE, -1);
    }

    private void nothingElseIsSeen() {
        Set<String> publicNames = new HashSet<>();
        for (Method m : ModeDesk.class.getDeclaredMethods()) {
            if (Modifier.isPublic(m.getModifiers())) {
                publicNames.add(m.getName());
            } else {
                hidden(m);
            }
        }
        for (Field f : ModeDesk.class.getDeclaredFields()) {
            if (!f.getName().equals("NONE")) {
                hidden(f);
            }
        }
        for (Class<?> inside : ModeDesk.class.getDeclaredClasses()) {
            check.due(inside + " is static", Modifier.isStatic(inside.getModifiers()), true);
            check.due(inside + " is hidden", (inside.getModifiers() & (Modifier.PUBLIC | Modifier.PROTECTED)) == 0, true);
        }
        for (Class<?> c : classes()) {
            for (Method m : c.getDeclaredMethods()) {
                boolean bears = !Modifier.isPublic(m.getModifiers()) && publicNames.contains(m.getName());
                check.due(m + " bears a public one's name", bears, false);
                check.due("parameters of " + m + " are few", m.getParameterCount() <= 7, true);
            }
        }
    }

    private void hidden(Member m) {
        check.due(m + " is private", Modifier.isPrivate(m.getModifiers()), true);
    }

    private static List<Class<?>> classes() {
        List<Class<?>> all = new ArrayList<>(List.of(ModeDesk.class.getDeclaredClasses()));
        all.add(ModeDesk.class);
        return all;
    }

    private void statesAreNotStatic() {
        for (Class<?> c : classes()) {
            int fields = 0;
            for (Field f : c.getDeclaredFields()) {
                if (Modifier.isStatic(f.getModifiers())) {
                    check.due(f + " is final", Modifier.isFinal(f.getModifiers()), true);
                } else {
                    fields++;
                }
            }
            check.due("fields of " + c + " are few", fields <= 20, true);
        }
    }

    private void classesAreFew() {
        check.due("the classes are few", classes().size() <= 12, true);
    }

    private void sourceKeepsTo(String source) {
        String[] refused = {"::", "finally", "synchronized", "assert ", "static {", "package ", "System.out", "getMessage", "hashCode"};
        for (String word : refused) {
            check.due("the source holds <" + word + ">", source.contains(word), false);
        }
        for (String line : source.split("\n")) {
            if (line.startsWith("import ")) {
                check.due(line, line.equals("import java.util.NoSuchElementException;"), true);
            }
        }
        check.due("the source is of signs up to 127", source.chars().allMatch(c -> c < 128), true);
        check.due("the source holds a lambda", Pattern.compile("[(,=]\\s*(\\([\\w\\s,]*\\)|\\w+)\\s*->").matcher(source).find(), false);
        methodsAreShort(source.split("\n"));
        callsMakeNothing(source.split("\n"));
    }

    private void methodsAreShort(String[] lines) {
        for (int i = 0; i < lines.length; i++) {
            if (lines[i].matches("( {4}| {8})[a-z].*\\) (throws .*)?\\{") && !lines[i].contains(" class ")) {
                String end = lines[i].replaceAll("\\S.*", "}");
                int k = i;
                while (k < lines.length && !lines[k].equals(end)) {
                    k++;
                }
                check.due("<" + lines[i].trim() + "> is short", k - i <= 60, true);
            }
        }
    }

    /** All rows are made with the desk: what calls made again and again would make fills the one room of a run. */
    private void callsMakeNothing(String[] lines) {
        for (String line : lines) {
            boolean kept = line.matches(" +(private )?final .* = new .*;") || line.contains("rows[i] = new Row();");
            boolean made = line.contains("new ") && !line.contains("throw new ") && !line.trim().startsWith("//");
            check.due("<" + line.trim() + "> makes no object in a call", made && !kept, false);
        }
    }

    private void aDeskIsSmall() throws IllegalAccessException {
        int[] made = {0, 0};
        count(new ModeDesk(), made, new IdentityHashMap<>());
        check.due("a desk is of some hundred objects at most, and is of " + made[0], made[0] <= 100, true);
        check.due("of some 12000 fields and elements at most, and is of " + made[1], made[1] <= 12000, true);
    }

    private static void count(Object o, int[] made, Map<Object, Object> seen) throws IllegalAccessException {
        if (o == null || seen.put(o, o) != null) {
            return;
        }
        made[0]++;
        if (o.getClass().isArray()) {
            int n = Array.getLength(o);
            made[1] += n;
            for (int i = 0; i < n && !o.getClass().getComponentType().isPrimitive(); i++) {
                count(Array.get(o, i), made, seen);
            }
            return;
        }
        // What the library's own objects hold is hidden from here.
        Field[] fields = classes().contains(o.getClass()) ? o.getClass().getDeclaredFields() : new Field[0];
        for (Field f : fields) {
            if (!Modifier.isStatic(f.getModifiers())) {
                made[1]++;
                f.setAccessible(true);
                if (!f.getType().isPrimitive()) {
                    count(f.get(o), made, seen);
                }
            }
        }
    }
}
