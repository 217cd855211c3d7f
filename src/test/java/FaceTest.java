import java.lang.reflect.Constructor;
import java.lang.reflect.Field;
import java.lang.reflect.Method;
import java.lang.reflect.Modifier;
import java.nio.file.Files;
import java.nio.file.Path;
import java.util.Arrays;
import java.util.Set;
import java.util.TreeSet;
import java.util.regex.Matcher;
import java.util.regex.Pattern;

/** The public face of the document, and those rules of LANGUAGE.md that can be looked up in the class or its text. */
public final class FaceTest {
    private static final Due DUE = new Due("FaceTest");

    private static final String[] FACE = {
        "int begin(int)", "long read(int,int)", "int readStatus()", "int write(int,int,long)", "int requestCommit(int)",
        "int abort(int)", "int outcome(int)", "long committedValue(int)", "int deliver(int)", "int drop(int)",
        "int twice(int)", "int timeout(int,int)", "int crash(int)", "int restart(int)", "int pending()",
        "int play(long,int)", "int message(int,int)", "int lock(int,int)", "int node(int,int)", "int entry(int,int,int)",
        "int ballot(int,int,int)", "int accepted(int,int,int,int)", "int count(int)"
    };

    public static void main(String[] args) throws Exception {
        members();
        classes();
        text(Files.readString(Path.of("src/main/java/CommitShards.java")));
        DUE.end();
    }

    private static void members() {
        Class<?> c = CommitShards.class;
        DUE.hold(Modifier.isPublic(c.getModifiers()) && Modifier.isFinal(c.getModifiers()), "public final class");
        Set<String> found = new TreeSet<>();
        for (Method m : c.getDeclaredMethods()) {
            if (!Modifier.isPrivate(m.getModifiers())) {
                DUE.hold(m.getModifiers() == Modifier.PUBLIC, "only public: " + m);
                found.add(told(m));
            }
        }
        DUE.hold(found.equals(new TreeSet<>(Arrays.asList(FACE))), "the face alone: " + found);
        Constructor<?>[] made = c.getDeclaredConstructors();
        DUE.be(1, made.length, "how many constructors");
        DUE.be(6, made[0].getParameterCount(), "how many parameters of the constructor");
        for (Field f : c.getDeclaredFields()) {
            if (!Modifier.isPrivate(f.getModifiers())) {
                DUE.hold(f.getName().equals("BAD") && f.getModifiers() == (Modifier.PUBLIC | Modifier.STATIC | Modifier.FINAL),
                    "no other open field: " + f);
            }
        }
        DUE.be(-1, CommitShards.BAD, "BAD");
    }

    private static String told(Method m) {
        StringBuilder text = new StringBuilder(m.getReturnType().getName()).append(' ').append(m.getName()).append('(');
        for (int i = 0; i < m.getParameterCount(); i++) {
            text.append(i == 0 ? "" : ",").append(m.getParameterTypes()[i].getName());
        }
        return text.append(')').toString();
    }

    private static void classes() {
        Set<String> names = new TreeSet<>();
        for (String line : FACE) {
            names.add(line.substring(line.indexOf(' ') + 1, line.indexOf('(')));
        }
        Class<?>[] inside = CommitShards.class.getDeclaredClasses();
        DUE.hold(inside.length < 12, "some twelve classes at most");
        oneClass(CommitShards.class, names);
        for (Class<?> c : inside) {
            DUE.hold(Modifier.isStatic(c.getModifiers()) && !Modifier.isPublic(c.getModifiers())
                && !Modifier.isProtected(c.getModifiers()), "static and not open: " + c);
            oneClass(c, names);
        }
    }

    private static void oneClass(Class<?> c, Set<String> face) {
        int own = 0;
        for (Field f : c.getDeclaredFields()) {
            boolean isStatic = Modifier.isStatic(f.getModifiers());
            own += isStatic ? 0 : 1;
            DUE.hold(!isStatic || Modifier.isFinal(f.getModifiers()), "static is final: " + f);
            DUE.hold(!isStatic || f.getType().isPrimitive(), "static is a constant: " + f);
        }
        DUE.hold(own <= 20, "some twenty fields: " + c);
        for (Method m : c.getDeclaredMethods()) {
            DUE.hold(m.getParameterCount() <= 7, "at most seven parameters: " + m);
            DUE.hold(Modifier.isPublic(m.getModifiers()) || !face.contains(m.getName()), "a name of the face: " + m);
            DUE.hold(!Set.of("equals", "hashCode", "toString").contains(m.getName()), "none of Object's: " + m);
        }
    }

    private static void text(String source) {
        for (char c : source.toCharArray()) {
            if (c > 126 || (c < 32 && c != '\n')) {
                DUE.hold(false, "a plain sign: " + (int) c);
            }
        }
        String code = source.replaceAll("(?s)/\\*.*?\\*/", "").replaceAll("//[^\n]*", "");
        for (String no : new String[] {"->", "::", "@", "\"", "\\bpackage\\b", "\\btry\\b", "\\bcatch\\b", "\\bfinally\\b",
            "\\bsynchronized\\b", "\\bassert\\b", "\\bthrows?\\b", "\\bdouble\\b", "\\bfloat\\b", "\\bprotected\\b",
            "boolean\\s*\\[\\]\\s*\\[\\]", "\\[\\]\\s*\\[\\]\\s*\\[\\]", "\\bSystem\\.(?!arraycopy)", "Exact\\b"}) {
            DUE.hold(!Pattern.compile(no).matcher(code).find(), "nowhere: " + no);
        }
        Matcher imports = Pattern.compile("import ([^;]*);").matcher(code);
        while (imports.find()) {
            DUE.hold(Set.of("java.util.Arrays", "java.util.ArrayList", "java.util.List").contains(imports.group(1)),
                "an import of the list: " + imports.group(1));
        }
    }
}
