import java.lang.reflect.Constructor;
import java.lang.reflect.Executable;
import java.lang.reflect.Field;
import java.lang.reflect.Method;
import java.lang.reflect.Modifier;
import java.util.ArrayList;
import java.util.Collections;
import java.util.List;
import java.util.Set;
import java.util.TreeSet;

/** The public face: just what the document's block tells, and rules 1, 5 and 11 of LANGUAGE.md on members. */
public final class FaceTest {
    private static final Check C = new Check("FaceTest");
    private static final Class<?> FACE = BundleFence.class;

    public static void main(String[] args) {
        theDocumentsFaceAndNoMore();
        noneOtherIsSeen();
        classesInside();
        staticFieldsAreFinal();
        C.end();
    }

    private static void theDocumentsFaceAndNoMore() {
        List<String> due = documentsFace();
        List<String> got = publicMembers();
        Collections.sort(due);
        Collections.sort(got);
        C.due("members", got.size(), 23);
        C.due("the public members", String.join("\n", got), String.join("\n", due));
        C.due("the class", Modifier.toString(FACE.getModifiers()), "public final");
        C.due("without a package", FACE.getPackageName(), "");
        C.due("NONE", BundleFence.NONE, -1);
    }

    /** The lines of the document's block, without the names of arguments. */
    private static List<String> documentsFace() {
        List<String> lines = new ArrayList<>();
        for (String line : Doc.block("The public face").split("\n")) {
            String t = line.trim();
            if (t.startsWith("public ") && !t.contains(" class ")) {
                String typed = t.replaceAll(" = .*", "").replaceAll("\\b(int|long|boolean) \\w+([,)])", "$1$2");
                lines.add(typed.replace(", ", ",").replace(";", ""));
            }
        }
        return lines;
    }

    private static List<String> publicMembers() {
        List<String> found = new ArrayList<>();
        for (Field f : FACE.getDeclaredFields()) {
            if (Modifier.isPublic(f.getModifiers())) {
                found.add(Modifier.toString(f.getModifiers()) + " " + f.getType().getSimpleName() + " " + f.getName());
            }
        }
        for (Constructor<?> c : FACE.getDeclaredConstructors()) {
            found.add(Modifier.toString(c.getModifiers()) + " " + FACE.getSimpleName() + operands(c));
        }
        for (Method m : FACE.getDeclaredMethods()) {
            if (Modifier.isPublic(m.getModifiers())) {
                String type = m.getReturnType().getSimpleName();
                found.add(Modifier.toString(m.getModifiers()) + " " + type + " " + m.getName() + operands(m));
            }
        }
        return found;
    }

    private static String operands(Executable e) {
        String types = names(e.getParameterTypes());
        String thrown = names(e.getExceptionTypes());
        return "(" + types + ")" + (thrown.isEmpty() ? "" : " throws " + thrown);
    }

    private static String names(Class<?>[] types) {
        List<String> all = new ArrayList<>();
        for (Class<?> t : types) {
            all.add(t.getSimpleName());
        }
        return String.join(",", all);
    }

    private static void noneOtherIsSeen() {
        Set<String> open = new TreeSet<>();
        for (Method m : FACE.getDeclaredMethods()) {
            boolean isPublic = Modifier.isPublic(m.getModifiers());
            C.due(m + " is public or private", isPublic || Modifier.isPrivate(m.getModifiers()) || m.isSynthetic(), true);
            if (isPublic) {
                C.due(m.getName() + " stands once", open.add(m.getName()), true);
            }
        }
        for (Field f : FACE.getDeclaredFields()) {
            boolean seen = !Modifier.isPrivate(f.getModifiers());
            C.due(f + " is seen", seen, f.getName().equals("NONE"));
        }
        for (Class<?> inside : FACE.getDeclaredClasses()) {
            for (Method m : inside.getDeclaredMethods()) {
                C.due(m + " has a name of the face", open.contains(m.getName()), false);
            }
        }
        for (Method m : FACE.getDeclaredMethods()) {
            boolean isHidden = Modifier.isPrivate(m.getModifiers()) && !m.isSynthetic();
            C.due(m + " has a name of the face", isHidden && open.contains(m.getName()), false);
        }
    }

    private static void classesInside() {
        C.due("some twelve classes", FACE.getDeclaredClasses().length <= 12, true);
        for (Class<?> inside : FACE.getDeclaredClasses()) {
            int modifiers = inside.getModifiers();
            C.due(inside + " is static", Modifier.isStatic(modifiers), true);
            C.due(inside + " is hidden", Modifier.isPublic(modifiers) || Modifier.isProtected(modifiers), false);
            int fields = 0;
            for (Field f : inside.getDeclaredFields()) {
                fields += Modifier.isStatic(f.getModifiers()) ? 0 : 1;
            }
            C.due(inside + " has some twenty fields", fields <= 20, true);
        }
    }

    private static void staticFieldsAreFinal() {
        List<Class<?>> all = new ArrayList<>(List.of(FACE.getDeclaredClasses()));
        all.add(FACE);
        for (Class<?> c : all) {
            for (Field f : c.getDeclaredFields()) {
                int modifiers = f.getModifiers();
                C.due(f + " is not final", Modifier.isStatic(modifiers) && !Modifier.isFinal(modifiers), false);
            }
        }
    }
}
