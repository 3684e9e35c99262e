import java.io.IOException;
import java.lang.reflect.Constructor;
import java.lang.reflect.Field;
import java.lang.reflect.Member;
import java.lang.reflect.Method;
import java.lang.reflect.Modifier;
import java.nio.charset.StandardCharsets;
import java.nio.file.Files;
import java.nio.file.Path;
import java.util.HashSet;
import java.util.List;
import java.util.Set;
import java.util.TreeSet;

/** The face is the document's, and the source keeps to what of LANGUAGE.md can be seen from outside. */
public final class FaceTest {
    private final Check check = new Check();

    public static void main(String[] args) throws IOException {
        FaceTest test = new FaceTest();
        test.faceIsThatOf(Files.readString(Path.of(args[0]), StandardCharsets.UTF_8));
        test.nothingElseIsSeen();
        test.statesAreNotStatic();
        test.classesAreFew();
        test.sourceKeepsTo(Files.readString(Path.of(args[1]), StandardCharsets.ISO_8859_1));
        test.check.end("FaceTest");
    }

    private static String face(Method m) {
        StringBuilder s = new StringBuilder(m.getReturnType().getName()).append(' ').append(m.getName()).append('(');
        for (Class<?> type : m.getParameterTypes()) {
            s.append(type.getName()).append(',');
        }
        return s.append(')').toString();
    }

    private void faceIsThatOf(String document) {
        Set<String> want = new TreeSet<>();
        for (String line : document.substring(0, document.indexOf("## Terms")).split("\n")) {
            String told = line.trim();
            if (told.startsWith("public ") && told.contains("(") && !told.contains("ModeDesk(")) {
                String[] head = told.substring("public ".length(), told.indexOf('(')).split(" ");
                StringBuilder s = new StringBuilder(head[0]).append(' ').append(head[1]).append('(');
                for (String parameter : told.substring(told.indexOf('(') + 1, told.indexOf(')')).split(",")) {
                    s.append(parameter.isBlank() ? "" : parameter.trim().split(" ")[0] + ",");
                }
                want.add(s.append(')').toString());
            }
        }
        Set<String> got = new TreeSet<>();
        for (Method m : ModeDesk.class.getDeclaredMethods()) {
            if (Modifier.isPublic(m.getModifiers()) && !Modifier.isStatic(m.getModifiers())) {
                got.add(face(m));
            }
        }
        check.due("methods of the document", want.size(), 55);
        check.due("the face " + got + " is " + want, got.equals(want), true);
        Constructor<?>[] made = ModeDesk.class.getConstructors();
        check.due("one constructor without parameters", made.length == 1 && made[0].getParameterCount() == 0, true);
        check.due("the class is public and final", ModeDesk.class.getModifiers(), Modifier.PUBLIC | Modifier.FINAL);
        check.due("NONE", ModeDesk.NONE, -1);
    }

    private void nothingElseIsSeen() {
        Set<String> publicNames = new HashSet<>();
        for (Method m : ModeDesk.class.getDeclaredMethods()) {
            if (Modifier.isPublic(m.getModifiers())) {
                publicNames.add(m.getName());
            } else {
                hidden(m);
            }
        }
        for (Field f : ModeDesk.class.getDeclaredFields()) {
            if (!f.getName().equals("NONE")) {
                hidden(f);
            }
        }
        for (Class<?> inside : ModeDesk.class.getDeclaredClasses()) {
            check.due(inside + " is static", Modifier.isStatic(inside.getModifiers()), true);
            check.due(inside + " is hidden", Modifier.isPrivate(inside.getModifiers()), true);
        }
        for (Class<?> c : classes()) {
            for (Method m : c.getDeclaredMethods()) {
                boolean bears = !Modifier.isPublic(m.getModifiers()) && publicNames.contains(m.getName());
                check.due(m + " bears a public one's name", bears, false);
                check.due("parameters of " + m + " are few", m.getParameterCount() <= 7, true);
            }
        }
    }

    private void hidden(Member m) {
        check.due(m + " is private", Modifier.isPrivate(m.getModifiers()), true);
    }

    private static List<Class<?>> classes() {
        List<Class<?>> all = new java.util.ArrayList<>(List.of(ModeDesk.class.getDeclaredClasses()));
        all.add(ModeDesk.class);
        return all;
    }

    private void statesAreNotStatic() {
        for (Class<?> c : classes()) {
            int fields = 0;
            for (Field f : c.getDeclaredFields()) {
                if (Modifier.isStatic(f.getModifiers())) {
                    check.due(f + " is final", Modifier.isFinal(f.getModifiers()), true);
                } else {
                    fields++;
                }
            }
            check.due("fields of " + c + " are few", fields <= 20, true);
        }
    }

    private void classesAreFew() {
        check.due("the classes are few", classes().size() <= 12, true);
    }

    private void sourceKeepsTo(String source) {
        String[] refused = {"->", "::", "catch", "finally", "synchronized", "assert", "static {", "package ", "System.out",
            "Exact(", "double", "float", "getMessage", "hashCode", "toString", "var ", "\t"};
        for (String word : refused) {
            check.due("the source holds <" + word + ">", source.contains(word), false);
        }
        for (String line : source.split("\n")) {
            if (line.startsWith("import ")) {
                check.due(line, line.equals("import java.util.NoSuchElementException;"), true);
            }
        }
        check.due("the source is of signs up to 127", source.chars().allMatch(c -> c < 128), true);
    }
}
