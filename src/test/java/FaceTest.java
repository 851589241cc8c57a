import java.lang.reflect.Constructor;
import java.lang.reflect.Field;
import java.lang.reflect.Method;
import java.lang.reflect.Modifier;
import java.nio.file.Files;
import java.nio.file.Path;
import java.util.Arrays;
import java.util.HashSet;
import java.util.Set;
import java.util.TreeSet;

/** The public face, NONE, and the rules of LANGUAGE.md that can be seen from outside or in the text. */
public final class FaceTest {
    private static final String[] FACE = {
        "int bend(int,int,int,int) throws NoSuchElementException", "int blade()", "int bow(int)", "int breaks(int,int)",
        "int count(int)", "boolean end(int)", "int even(int,int,int)", "int evenAt(int)", "int fault()",
        "int feed(int,int,int,int,int)", "boolean forge(int,int)", "int form(int,int)", "int formBy()", "int hand()",
        "boolean image(int)", "boolean keep(int)", "int piece(int,int) throws NoSuchElementException", "int place(int,int,int)",
        "int range(int)", "int read(int,int)", "int readAt(int)", "boolean restore(int)", "int run(int)", "int said(int)",
        "int sentence()", "int song(int)", "int songAt(int)", "boolean take(int)",
        "int tick(int,int) throws NoSuchElementException", "int tone(int,int,int,int)", "int tremble(int,int,int)",
        "int voice(int,int)", "int where(int,int,int,int,int)", "int which(int)", "int worth()", "int write(int,int)",
    };

    public static void main(String[] args) throws Exception {
        Check.due("NONE", SingingSaw.NONE, -1);
        Check.due("final", Modifier.isFinal(SingingSaw.class.getModifiers()), true);
        Set<String> publicNames = new HashSet<>();
        Set<String> shown = new TreeSet<>();
        for (Method m : SingingSaw.class.getDeclaredMethods()) {
            if (Modifier.isPublic(m.getModifiers())) {
                shown.add(signature(m));
                publicNames.add(m.getName());
            }
        }
        Check.due("the face is the document's: " + shown, shown.equals(new TreeSet<>(Arrays.asList(FACE))), true);
        for (Method m : SingingSaw.class.getDeclaredMethods()) {
            boolean isPublic = Modifier.isPublic(m.getModifiers());
            Check.due(m + " is public or private", isPublic || Modifier.isPrivate(m.getModifiers()), true);
            Check.due(m + " has a name of its own", isPublic || !publicNames.contains(m.getName()), true);
        }
        fields();
        classes(publicNames);
        text(Files.readString(Path.of("src/main/java/SingingSaw.java")));
        Check.finish("FaceTest");
    }

    private static String signature(Method m) {
        StringBuilder s = new StringBuilder(m.getReturnType() + " " + m.getName() + "(");
        for (Class<?> c : m.getParameterTypes()) {
            s.append(s.charAt(s.length() - 1) == '(' ? "" : ",").append(c);
        }
        s.append(')');
        for (Class<?> c : m.getExceptionTypes()) {
            s.append(" throws ").append(c.getSimpleName());
        }
        return s.toString();
    }

    private static void fields() {
        int publicFields = 0;
        for (Field f : SingingSaw.class.getDeclaredFields()) {
            publicFields += Modifier.isPublic(f.getModifiers()) ? 1 : 0;
            Check.due(f + " is NONE or private", f.getName().equals("NONE") || Modifier.isPrivate(f.getModifiers()), true);
        }
        Check.due("public fields", publicFields, 1);
        Constructor<?>[] constructors = SingingSaw.class.getDeclaredConstructors();
        Check.due("constructors", constructors.length, 1);
        Check.due("public constructor without parameters",
            Modifier.isPublic(constructors[0].getModifiers()) && constructors[0].getParameterCount() == 0, true);
    }

    private static void classes(Set<String> publicNames) {
        Class<?>[] inside = SingingSaw.class.getDeclaredClasses();
        Check.due("some twelve classes", inside.length + 1 <= 13, true);
        for (Class<?> c : inside) {
            Check.due(c + " is static", Modifier.isStatic(c.getModifiers()), true);
            Check.due(c + " is not shown", Modifier.isPublic(c.getModifiers()) || Modifier.isProtected(c.getModifiers()), false);
        }
        for (Class<?> c : inside) {
            for (Field f : c.getDeclaredFields()) {
                boolean isStatic = Modifier.isStatic(f.getModifiers());
                Check.due(f + " is a constant, if static", !isStatic || Modifier.isFinal(f.getModifiers()), true);
            }
            for (Method m : c.getDeclaredMethods()) {
                Check.due(m + " has a name of its own", publicNames.contains(m.getName()), false);
                Check.due(m + " has few parameters", m.getParameterCount() <= 7, true);
            }
        }
    }

    private static void text(String source) {
        String code = source.replaceAll("(?s)/\\*.*?\\*/", "").replaceAll("//[^\n]*", "");
        String[] ruledOut = {"->", "::", "catch", "finally", "synchronized", "assert", "instanceof", "double", "float", "Exact",
            "static {", "System.out", "record ", "java.util.Random", "hashCode", "toString", "equals", "@"};
        for (String s : ruledOut) {
            Check.due("the program has '" + s + "'", code.contains(s), false);
        }
        Check.due("imports", code.split("\nimport ", -1).length - 1 + (code.startsWith("import ") ? 1 : 0), 1);
        int ascii = 0;
        for (char c : source.toCharArray()) {
            ascii += c > 126 || c < 32 && c != '\n' ? 1 : 0;
        }
        Check.due("signs that are not plain", ascii, 0);
        int length = 0;
        for (String line : source.split("\n")) {
            boolean isHead = line.matches(" {4,8}[a-zA-Z].*\\) (throws \\w+ )?\\{");
            length = isHead ? 0 : length + 1;
            Check.due("a method grows too long at: " + line, line.matches(" {4,8}\\}") && length > 60, false);
        }
    }
}
