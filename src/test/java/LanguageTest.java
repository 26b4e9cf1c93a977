import java.io.IOException;
import java.lang.reflect.Constructor;
import java.lang.reflect.Executable;
import java.lang.reflect.Field;
import java.lang.reflect.Method;
import java.lang.reflect.Modifier;
import java.nio.file.Files;
import java.nio.file.Path;
import java.util.ArrayList;
import java.util.List;
import java.util.Set;
import java.util.TreeSet;
import java.util.regex.Matcher;
import java.util.regex.Pattern;

/** The rules of LANGUAGE.md that can be seen from the source and the compiled class, and the document's face. */
public final class LanguageTest {
    private static final String[] FACE = {
        "int sitter 4", "int of 2", "int at 1", "int asks 2", "int terms 2", "int feed 5", "int end 1", "int row 0",
        "int puffs 0", "int law 0", "int orders 0", "int fault 0", "int stopped 0", "int force 1", "int seat 2",
        "int out 1", "int swap 2", "int pass 0", "int undo 0", "int later 3", "int when 2", "int one 0", "int pleased 2",
        "int exchanges 2", "int seen 3", "int forget 0", "int sat 2", "int ask 2", "int treaty 2", "int drop 3",
        "long few 2", "int compare 2", "int mornings 2", "int drawn 2", "int image 1", "int back 1", "int count 1",
        "int status 0"
    };
    private static final String[] FORBIDDEN = {
        "\\bthrow\\b", "\\bthrows\\b", "\\btry\\b", "\\bcatch\\b", "\\bfinally\\b", "\\bsynchronized\\b", "\\bassert\\b",
        "->", "::", "\\bpackage\\b", "\\bpublic static (?!final int NONE)", "\\bprotected\\b", "\\bstatic \\{",
        "\\bObject\\b", "\\bvar\\b", "\\bfloat\\b", "\\bdouble\\b", "\\bnative\\b", "\\bvolatile\\b", "Exact\\b",
        "\\bThread\\b", "\\bRandom\\b", "\\bSystem\\.(?!arraycopy)", "@", "\\bhashCode\\b", "\\btoString\\b",
        "\"\\s*\\+", "\\+\\s*\"", "\\bwhile \\(true\\)", "for \\(;;", "String\\[\\]"
    };
    private static final Path SOURCE = Path.of("src/main/java/SteamNations.java");

    private LanguageTest() {
    }

    public static void main(String[] args) throws IOException {
        face();
        String source = Files.readString(SOURCE);
        String code = withoutComments(source);
        for (String forbidden : FORBIDDEN) {
            Matcher m = Pattern.compile(forbidden).matcher(code);
            Check.so("no " + forbidden + " in the source", !m.find());
        }
        Check.so("signs of the source are 1 to 127", source.chars().allMatch(c -> c > 0 && c < 128));
        Check.so("one import", code.lines().filter(l -> l.startsWith("import ")).allMatch("import java.util.Arrays;"::equals));
        methodsAreShort(code);
        Check.close("LanguageTest");
    }

    private static String withoutComments(String source) {
        return source.replaceAll("(?s)/\\*.*?\\*/", "").replaceAll("//[^\n]*", "");
    }

    private static void face() {
        Class<SteamNations> face = SteamNations.class;
        Check.due("public and final", face.getModifiers() & (Modifier.PUBLIC | Modifier.FINAL), Modifier.PUBLIC | Modifier.FINAL);
        Set<String> due = new TreeSet<>(List.of(FACE));
        Set<String> found = new TreeSet<>();
        for (Method m : face.getDeclaredMethods()) {
            if (!Modifier.isPrivate(m.getModifiers())) {
                Check.so("public, not static: " + m, Modifier.isPublic(m.getModifiers()) && !Modifier.isStatic(m.getModifiers()));
                found.add(m.getReturnType() + " " + m.getName() + " " + m.getParameterCount());
            }
        }
        Check.so("the face: " + found, found.equals(due));
        for (Field f : face.getDeclaredFields()) {
            Check.so("private but for NONE: " + f, f.getName().equals("NONE") || Modifier.isPrivate(f.getModifiers()));
        }
        Check.due("constructors", face.getDeclaredConstructors().length, 1);
        Check.due("constructor's parameters", face.getDeclaredConstructors()[0].getParameterCount(), 0);
        classesInside(face);
    }

    private static void classesInside(Class<?> face) {
        Set<String> names = new TreeSet<>();
        for (String f : FACE) {
            names.add(f.split(" ")[1]);
        }
        List<Class<?>> all = new ArrayList<>(List.of(face.getDeclaredClasses()));
        Check.so("at most twelve classes", all.size() + 1 <= 12);
        for (Class<?> c : all) {
            Check.so("static, not public: " + c, Modifier.isStatic(c.getModifiers()) && !Modifier.isPublic(c.getModifiers()));
            Check.due("classes inside " + c, c.getDeclaredClasses().length, 0);
            for (Method m : c.getDeclaredMethods()) {
                Check.so("no name of the face: " + m, !names.contains(m.getName()));
            }
        }
        all.add(face);
        for (Class<?> c : all) {
            int own = 0;
            for (Field f : c.getDeclaredFields()) {
                boolean isStatic = Modifier.isStatic(f.getModifiers());
                Check.so("static fields are final: " + f, !isStatic || Modifier.isFinal(f.getModifiers()));
                own += isStatic ? 0 : 1;
            }
            Check.so("at most twenty fields: " + c, own <= 20);
            List<Executable> bodies = new ArrayList<>(List.of(c.getDeclaredMethods()));
            bodies.addAll(List.<Constructor<?>>of(c.getDeclaredConstructors()));
            for (Executable e : bodies) {
                Check.so("at most seven parameters: " + e, e.getParameterCount() <= 7);
            }
        }
    }

    /** A method's head ends in ") {" at four or eight blanks; it reaches to the brace below its first sign. */
    private static void methodsAreShort(String code) {
        String[] lines = code.split("\n");
        for (int i = 0; i < lines.length; i++) {
            Matcher head = Pattern.compile("^( {4}| {8})[A-Za-z].*\\) \\{$").matcher(lines[i]);
            if (head.find() && !lines[i].trim().matches("(if|for|while|switch|else).*")) {
                String end = head.group(1) + "}";
                int j = i;
                while (j < lines.length && !lines[j].equals(end)) {
                    j++;
                }
                Check.so("at most sixty lines: " + lines[i].trim(), j - i < 60);
            }
        }
    }
}
