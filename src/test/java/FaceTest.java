import java.io.IOException;
import java.lang.reflect.Array;
import java.lang.reflect.Constructor;
import java.lang.reflect.Field;
import java.lang.reflect.Member;
import java.lang.reflect.Method;
import java.lang.reflect.Modifier;
import java.nio.charset.StandardCharsets;
import java.nio.file.Files;
import java.nio.file.Path;
import java.util.ArrayList;
import java.util.HashSet;
import java.util.IdentityHashMap;
import java.util.List;
import java.util.Map;
import java.util.Set;
import java.util.TreeSet;

/** The face is the document's, nothing else is seen, and a desk is small. */
public final class FaceTest {
    private final Check check = new Check();

    public static void main(String[] args) throws IOException, IllegalAccessException {
        FaceTest test = new FaceTest();
        test.faceIsThatOf(Files.readString(Path.of(args[0]), StandardCharsets.UTF_8));
        test.nothingElseIsSeen();
        test.aDeskIsSmall();
        test.check.end("FaceTest");
    }

    private static String face(Method m) {
        StringBuilder s = new StringBuilder(m.getReturnType().getName()).append(' ').append(m.getName()).append('(');
        for (Class<?> type : m.getParameterTypes()) {
            s.append(type.getName()).append(',');
        }
        s.append(')');
        for (Class<?> thrown : m.getExceptionTypes()) {
            s.append(' ').append(thrown.getSimpleName());
        }
        return s.toString();
    }

    private void faceIsThatOf(String document) {
        Set<String> want = new TreeSet<>();
        for (String line : document.substring(0, document.indexOf("## Terms")).split("\n")) {
            String told = line.trim();
            if (told.startsWith("public ") && told.contains("(") && !told.contains("ModeDesk(")) {
                String[] head = told.substring("public ".length(), told.indexOf('(')).split(" ");
                StringBuilder s = new StringBuilder(head[0]).append(' ').append(head[1]).append('(');
                for (String parameter : told.substring(told.indexOf('(') + 1, told.indexOf(')')).split(",")) {
                    s.append(parameter.isBlank() ? "" : parameter.trim().split(" ")[0] + ",");
                }
                s.append(')').append(told.substring(told.indexOf(')') + 1).replaceAll(" throws|[,;]", ""));
                want.add(s.toString());
            }
        }
        Set<String> got = new TreeSet<>();
        for (Method m : ModeDesk.class.getDeclaredMethods()) {
            if (Modifier.isPublic(m.getModifiers()) && !Modifier.isStatic(m.getModifiers())) {
                got.add(face(m));
            }
        }
        check.due("methods of the document", want.size(), 55);
        check.due("the face " + got + " is " + want, got.equals(want), true);
        Constructor<?>[] made = ModeDesk.class.getConstructors();
        check.due("one constructor without parameters", made.length == 1 && made[0].getParameterCount() == 0, true);
        check.due("the class is public and final", ModeDesk.class.getModifiers(), Modifier.PUBLIC | Modifier.FINAL);
        check.due("NONE", ModeDesk.NONE, -1);
    }

    private void nothingElseIsSeen() {
        Set<String> publicNames = new HashSet<>();
        for (Method m : ModeDesk.class.getDeclaredMethods()) {
            if (Modifier.isPublic(m.getModifiers())) {
                publicNames.add(m.getName());
            } else {
                hidden(m);
            }
        }
        for (Field f : ModeDesk.class.getDeclaredFields()) {
            if (!f.getName().equals("NONE")) {
                hidden(f);
            }
        }
        for (Class<?> c : classes()) {
            for (Method m : c.getDeclaredMethods()) {
                boolean bears = !Modifier.isPublic(m.getModifiers()) && publicNames.contains(m.getName());
                check.due(m + " bears a public one's name", bears, false);
            }
        }
    }

    private void hidden(Member m) {
        check.due(m + " is private", Modifier.isPrivate(m.getModifiers()), true);
    }

    private static List<Class<?>> classes() {
        List<Class<?>> all = new ArrayList<>(List.of(ModeDesk.class.getDeclaredClasses()));
        all.add(ModeDesk.class);
        return all;
    }

    private void aDeskIsSmall() throws IllegalAccessException {
        int[] made = {0, 0};
        count(new ModeDesk(), made, new IdentityHashMap<>());
        check.due("a desk is of some hundred objects at most, and is of " + made[0], made[0] <= 100, true);
        check.due("of some 12000 fields and elements at most, and is of " + made[1], made[1] <= 12000, true);
    }

    private static void count(Object o, int[] made, Map<Object, Object> seen) throws IllegalAccessException {
        if (o == null || seen.put(o, o) != null) {
            return;
        }
        made[0]++;
        if (o.getClass().isArray()) {
            int n = Array.getLength(o);
            made[1] += n;
            for (int i = 0; i < n && !o.getClass().getComponentType().isPrimitive(); i++) {
                count(Array.get(o, i), made, seen);
            }
            return;
        }
        // What the library's own objects hold is hidden from here.
        Field[] fields = classes().contains(o.getClass()) ? o.getClass().getDeclaredFields() : new Field[0];
        for (Field f : fields) {
            if (!Modifier.isStatic(f.getModifiers())) {
                made[1]++;
                f.setAccessible(true);
                if (!f.getType().isPrimitive()) {
                    count(f.get(o), made, seen);
                }
            }
        }
    }
}
