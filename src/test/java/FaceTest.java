import java.io.IOException;
import java.lang.reflect.Constructor;
import java.lang.reflect.Field;
import java.lang.reflect.Method;
import java.lang.reflect.Modifier;
import java.nio.file.Files;
import java.nio.file.Path;
import java.util.Set;
import java.util.TreeSet;
import java.util.regex.Matcher;
import java.util.regex.Pattern;

/** The public face, as the document has it (rule 1 of LANGUAGE.md); LanguageTest has the other rules. */
public final class FaceTest {
    private static final Kit KIT = new Kit();

    private static Set<String> dueFace() throws IOException {
        String doc = Files.readString(Path.of("../shared/DOC.md"));
        String face = doc.substring(doc.indexOf("public final class OddCancel"), doc.indexOf("```", doc.indexOf("public final class OddCancel")));
        Set<String> due = new TreeSet<>();
        Matcher m = Pattern.compile("public (int|long|boolean) (\\w+)\\(([^)]*)\\);").matcher(face);
        while (m.find()) {
            StringBuilder types = new StringBuilder();
            for (String part : m.group(3).isEmpty() ? new String[0] : m.group(3).split(", ")) {
                types.append(part.split(" ")[0]).append(' ');
            }
            due.add(m.group(1) + " " + m.group(2) + " " + types);
        }
        return due;
    }

    private static void face() throws IOException {
        Set<String> due = dueFace();
        Set<String> names = new TreeSet<>();
        KIT.due("methods of the document", due.size(), 61);
        for (String d : due) {
            names.add(d.split(" ")[1]);
        }
        for (Method m : OddCancel.class.getDeclaredMethods()) {
            if (!Modifier.isPrivate(m.getModifiers()) && !m.isSynthetic()) {
                StringBuilder types = new StringBuilder();
                for (Class<?> c : m.getParameterTypes()) {
                    types.append(c.getName()).append(' ');
                }
                String is = m.getReturnType().getName() + " " + m.getName() + " " + types;
                KIT.due("of the face: " + is, due.remove(is) && Modifier.isPublic(m.getModifiers()), true);
            } else {
                KIT.due("private like a public one: " + m.getName(), names.contains(m.getName()), false);
            }
        }
        KIT.due("missing: " + due, due.size(), 0);
        for (Field f : OddCancel.class.getDeclaredFields()) {
            boolean none = f.getName().equals("NONE");
            KIT.due("field " + f.getName(), Modifier.isPublic(f.getModifiers()) == none && (none || Modifier.isPrivate(f.getModifiers())), true);
            KIT.due("static is final: " + f.getName(), Modifier.isStatic(f.getModifiers()) && !Modifier.isFinal(f.getModifiers()), false);
        }
        KIT.due("NONE", OddCancel.NONE, -1);
        Constructor<?>[] made = OddCancel.class.getDeclaredConstructors();
        KIT.due("constructors", made.length, 1);
        KIT.due("public, of nothing", Modifier.isPublic(made[0].getModifiers()) && made[0].getParameterCount() == 0, true);
        KIT.due("final", Modifier.isFinal(OddCancel.class.getModifiers()), true);
        for (Class<?> c : OddCancel.class.getDeclaredClasses()) {
            for (Method m : c.getDeclaredMethods()) {
                KIT.due("named like a public one: " + m, names.contains(m.getName()), false);
            }
        }
    }

    public static void main(String[] args) throws IOException {
        face();
        KIT.end("FaceTest");
    }
}
