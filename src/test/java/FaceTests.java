import java.io.IOException;
import java.lang.reflect.Constructor;
import java.lang.reflect.Field;
import java.lang.reflect.Method;
import java.lang.reflect.Modifier;
import java.nio.file.Files;
import java.nio.file.Path;
import java.util.Arrays;
import java.util.Set;
import java.util.TreeSet;
import java.util.regex.Matcher;
import java.util.regex.Pattern;

/** The public face, and those rules of LANGUAGE.md that can be seen from the outside. */
final class FaceTests {
    private static final String[] FACE = {
        "int type(int,int)", "int wipe(int)", "int undo(int)", "int fault(int)", "int thing(int,int)", "int judge(int,int)",
        "int event(int,int,int)", "int back()", "int read(int)", "int place(int,int)", "int at(int,int,int)", "int show(int,int)",
        "int owned(int)", "int champion()", "int best()", "int left(int)", "int brush(int,int)", "int rival(int,int)",
        "int send(int,int,int)", "int spare(int)", "int seen(int,int,int)", "int forget()", "int never()", "int looked(int)",
        "int tastes(int)", "int ask(int)", "long chance(int,int,int)", "int years(int,int,int)", "int sheet(int,int,int)",
        "int lose(int)", "int lay(int,int,int,int)", "int get(int,int,int)", "int copy(int,int,int,int,int)",
        "int write(int,int)", "int count(int)", "long digest()"};

    private static final String[] FORBIDDEN = {"throw", "throws", "try", "catch", "synchronized", "assert", "import", "package",
        "protected", "Exact", "hashCode", "toString", "lambda", "double", "float", "Object", "System\\.(?!arraycopy)", "->", "::"};

    public static void main(String[] args) throws IOException {
        face();
        innerClasses();
        source(Files.readString(Path.of(System.getProperty("rosette.source", "src/main/java/RosetteShow.java"))));
        Due.end();
    }

    private static void face() {
        Class<?> c = RosetteShow.class;
        Due.is("public and final", c.getModifiers() & (Modifier.PUBLIC | Modifier.FINAL), Modifier.PUBLIC | Modifier.FINAL);
        Set<String> methods = new TreeSet<>();
        Set<String> names = new TreeSet<>();
        for (Method m : c.getDeclaredMethods()) {
            if (!Modifier.isPrivate(m.getModifiers())) {
                String parameters = String.join(",", Arrays.stream(m.getParameterTypes()).map(Class::getName).toList());
                methods.add(m.getReturnType() + " " + m.getName() + "(" + parameters + ")");
                names.add(m.getName());
            }
        }
        same("methods", methods, new TreeSet<>(Arrays.asList(FACE)));
        for (Method m : c.getDeclaredMethods()) {
            boolean isNamesake = Modifier.isPrivate(m.getModifiers()) && names.contains(m.getName());
            Due.is("private method with the name of a public one: " + m.getName(), isNamesake ? 1 : 0, 0);
        }
        Set<String> fields = new TreeSet<>();
        for (Field f : c.getDeclaredFields()) {
            if (!Modifier.isPrivate(f.getModifiers())) {
                fields.add(Modifier.toString(f.getModifiers()) + " " + f.getType() + " " + f.getName());
            }
            if (Modifier.isStatic(f.getModifiers())) {
                Due.is("static field is final: " + f.getName(), f.getModifiers() & Modifier.FINAL, Modifier.FINAL);
            }
        }
        same("fields", fields, new TreeSet<>(Set.of("public static final int NONE", "public static final int BAD",
            "public static final int NOT", "public static final int FULL")));
        Constructor<?>[] made = c.getDeclaredConstructors();
        Due.is("constructors", made.length, 1);
        Due.is("constructor is public", made[0].getModifiers(), Modifier.PUBLIC);
        Due.is("constructor takes nothing", made[0].getParameterCount(), 0);
        Due.is("NONE", RosetteShow.NONE, -1);
        Due.is("BAD", RosetteShow.BAD, -2);
        Due.is("NOT", RosetteShow.NOT, -3);
        Due.is("FULL", RosetteShow.FULL, -4);
    }

    private static void innerClasses() {
        Class<?>[] inside = RosetteShow.class.getDeclaredClasses();
        Due.is("classes of the file are twelve at most", inside.length + 1 <= 12 ? 1 : 0, 1);
        for (Class<?> c : inside) {
            Due.is(c.getName() + " is static", c.getModifiers() & Modifier.STATIC, Modifier.STATIC);
            Due.is(c.getName() + " is not public", c.getModifiers() & (Modifier.PUBLIC | Modifier.PROTECTED), 0);
        }
    }

    private static void source(String text) {
        String code = text.replaceAll("(?s)/\\*.*?\\*/", "").replaceAll("//[^\n]*", "");
        for (String word : FORBIDDEN) {
            String whole = Character.isLetter(word.charAt(0)) && word.matches("\\w+") ? "\\b" + word + "\\b" : word;
            Matcher found = Pattern.compile(whole).matcher(code);
            Due.is("the file has " + word, found.find() ? 1 : 0, 0);
        }
        for (int i = 0; i < text.length(); i++) {
            if (text.charAt(i) > 127) {
                Due.is("sign at " + i, text.charAt(i), 127);
            }
        }
        longestMethod(code);
    }

    private static void longestMethod(String code) {
        int start = -1;
        String[] lines = code.split("\n");
        for (int i = 0; i < lines.length; i++) {
            if (lines[i].matches("( {4}| {8})[a-z].*\\) \\{") && !lines[i].matches(" +(if|for|while|switch|else).*")) {
                start = i;
            }
            if (start >= 0 && lines[i].equals(lines[start].replaceAll("\\S.*", "") + "}")) {
                Due.is("lines of " + lines[start].trim(), i - start > 60 ? i - start : 0, 0);
                start = -1;
            }
        }
    }

    private static void same(String name, Set<String> got, Set<String> want) {
        for (String g : got) {
            Due.is(name + ": not told: " + g, want.contains(g) ? 1 : 0, 1);
        }
        for (String w : want) {
            Due.is(name + ": missing: " + w, got.contains(w) ? 1 : 0, 1);
        }
    }
}
