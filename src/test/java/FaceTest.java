import java.io.IOException;
import java.lang.reflect.Constructor;
import java.lang.reflect.Field;
import java.lang.reflect.Method;
import java.lang.reflect.Modifier;
import java.nio.file.Files;
import java.nio.file.Path;
import java.util.ArrayList;
import java.util.List;
import java.util.Set;
import java.util.TreeSet;
import java.util.regex.Matcher;
import java.util.regex.Pattern;

/** The public face, as the document has it, and what of LANGUAGE.md can be seen in the file's text. */
public final class FaceTest {
    private static final Kit KIT = new Kit();

    private static Set<String> dueFace() throws IOException {
        String doc = Files.readString(Path.of("../shared/DOC.md"));
        String face = doc.substring(doc.indexOf("public final class OddCancel"), doc.indexOf("```", doc.indexOf("public final class OddCancel")));
        Set<String> due = new TreeSet<>();
        Matcher m = Pattern.compile("public (int|long|boolean) (\\w+)\\(([^)]*)\\);").matcher(face);
        while (m.find()) {
            StringBuilder types = new StringBuilder();
            for (String part : m.group(3).isEmpty() ? new String[0] : m.group(3).split(", ")) {
                types.append(part.split(" ")[0]).append(' ');
            }
            due.add(m.group(1) + " " + m.group(2) + " " + types);
        }
        return due;
    }

    private static void face() throws IOException {
        Set<String> due = dueFace();
        Set<String> names = new TreeSet<>();
        KIT.due("methods of the document", due.size(), 61);
        for (String d : due) {
            names.add(d.split(" ")[1]);
        }
        for (Method m : OddCancel.class.getDeclaredMethods()) {
            if (!Modifier.isPrivate(m.getModifiers()) && !m.isSynthetic()) {
                StringBuilder types = new StringBuilder();
                for (Class<?> c : m.getParameterTypes()) {
                    types.append(c.getName()).append(' ');
                }
                String is = m.getReturnType().getName() + " " + m.getName() + " " + types;
                KIT.due("of the face: " + is, due.remove(is) && Modifier.isPublic(m.getModifiers()), true);
            } else {
                KIT.due("private like a public one: " + m.getName(), names.contains(m.getName()), false);
            }
        }
        KIT.due("missing: " + due, due.size(), 0);
        for (Field f : OddCancel.class.getDeclaredFields()) {
            boolean none = f.getName().equals("NONE");
            KIT.due("field " + f.getName(), Modifier.isPublic(f.getModifiers()) == none && (none || Modifier.isPrivate(f.getModifiers())), true);
            KIT.due("static is final: " + f.getName(), Modifier.isStatic(f.getModifiers()) && !Modifier.isFinal(f.getModifiers()), false);
        }
        KIT.due("NONE", OddCancel.NONE, -1);
        Constructor<?>[] made = OddCancel.class.getDeclaredConstructors();
        KIT.due("constructors", made.length, 1);
        KIT.due("public, of nothing", Modifier.isPublic(made[0].getModifiers()) && made[0].getParameterCount() == 0, true);
        KIT.due("final", Modifier.isFinal(OddCancel.class.getModifiers()), true);
        KIT.due("classes inside", OddCancel.class.getDeclaredClasses().length <= 12, true);
        for (Class<?> c : OddCancel.class.getDeclaredClasses()) {
            KIT.due("static " + c, Modifier.isStatic(c.getModifiers()), true);
            KIT.due("some twenty fields " + c, fieldsOf(c) <= 20, true);
            for (Method m : c.getDeclaredMethods()) {
                KIT.due("named like a public one: " + m, names.contains(m.getName()), false);
            }
        }
        KIT.due("some twenty fields", fieldsOf(OddCancel.class) <= 20, true);
    }

    private static int fieldsOf(Class<?> c) {
        int many = 0;
        for (Field f : c.getDeclaredFields()) {
            many += Modifier.isStatic(f.getModifiers()) ? 0 : 1;
        }
        return many;
    }

    private static void text() throws IOException {
        String source = Files.readString(Path.of("src/main/java/OddCancel.java"));
        KIT.due("signs", source.chars().allMatch(c -> c == '\n' || c >= 32 && c < 127), true);
        String code = source.replaceAll("(?s)/\\*.*?\\*/", " ").replaceAll("//[^\n]*", " ");
        String bare = code.replaceAll("\"[^\"]*\"", "\"\"");
        for (String word : "throw throws try catch synchronized assert protected instanceof hashCode toString equals Object var float double record enum".split(" ")) {
            KIT.due("no " + word, Pattern.compile("\\b" + word + "\\b").matcher(bare).find(), false);
        }
        for (String sign : new String[] {"->", "::", "@", "\" +", "+ \"", "Exact(", "package "}) {
            KIT.due("no " + sign, bare.contains(sign), false);
        }
        List<String> imports = new ArrayList<>();
        Matcher m = Pattern.compile("import ([^;]+);").matcher(bare);
        while (m.find()) {
            imports.add(m.group(1));
        }
        KIT.due("imports " + imports, imports.size() == 1 && imports.get(0).equals("java.util.Arrays"), true);
        KIT.due("nothing is made in a call", makesInCalls(bare), 0);
        methods(bare);
    }

    /** All is made where final fields are, or in the constructor, which stands ahead of status(). */
    private static int makesInCalls(String code) {
        int at = code.indexOf("public int status()");
        int many = 0;
        for (String line : code.substring(at).split("\n")) {
            if (line.contains("new ") && !line.trim().startsWith("final ") && !line.trim().startsWith("private final ")) {
                many++;
                System.out.println(line);
            }
        }
        return many;
    }

    private static void methods(String code) {
        String[] lines = code.split("\n");
        int begun = -1;
        String indent = "";
        for (int k = 0; k < lines.length; k++) {
            Matcher m = Pattern.compile("^( {4}| {8})(?! )(?!.*\\b(class|return|else)\\b)[\\w\\[\\] ]+\\(([^()]*)\\) \\{$").matcher(lines[k]);
            if (begun < 0 && m.find()) {
                begun = k;
                indent = m.group(1);
                KIT.due("parameters: " + lines[k], m.group(3).split(",").length <= 7, true);
            } else if (begun >= 0 && lines[k].equals(indent + "}")) {
                KIT.due("lines: " + lines[begun], k - begun <= 60, true);
                begun = -1;
            }
        }
    }

    public static void main(String[] args) throws IOException {
        face();
        text();
        KIT.end("FaceTest");
    }
}
