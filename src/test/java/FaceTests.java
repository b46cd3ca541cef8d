import java.io.IOException;
import java.lang.reflect.Constructor;
import java.lang.reflect.Field;
import java.lang.reflect.Method;
import java.lang.reflect.Modifier;
import java.nio.file.Files;
import java.nio.file.Path;
import java.util.HashSet;
import java.util.Set;
import java.util.TreeSet;

/** The face of the class is that of the document and no more. */
public final class FaceTests {
    private static int wrong = 0;

    private static void need(boolean isFine, String what) {
        if (!isFine) {
            wrong++;
            System.out.println("FaceTests: " + what);
        }
    }

    /** The lines of the document's public face, from "public" to the last exception. */
    private static Set<String> faceOfDocument() throws IOException {
        Set<String> face = new TreeSet<>();
        for (String line : Files.readAllLines(Path.of("../shared/DOC.md"))) {
            if (line.startsWith("    public ") && line.endsWith(";")) {
                face.add(line.trim().replace(";", "").replaceAll(" [a-z]\\w*([,)])", "$1"));
            }
        }
        return face;
    }

    private static String names(Class<?>[] types) {
        StringBuilder names = new StringBuilder();
        for (Class<?> type : types) {
            names.append(names.length() > 0 ? ", " : "").append(type.getSimpleName());
        }
        return names.toString();
    }

    private static String thrown(Class<?>[] types) {
        return types.length == 0 ? "" : " throws " + names(types);
    }

    private static void checkMembers(Set<String> face) {
        Set<String> found = new TreeSet<>();
        Set<String> faceNames = new HashSet<>();
        for (Constructor<?> made : Lastbus.class.getDeclaredConstructors()) {
            found.add("public Lastbus(" + names(made.getParameterTypes()) + ")" + thrown(made.getExceptionTypes()));
        }
        for (Method method : Lastbus.class.getDeclaredMethods()) {
            if (!Modifier.isPrivate(method.getModifiers())) {
                faceNames.add(method.getName());
                found.add("public " + method.getReturnType().getSimpleName() + " " + method.getName() + "("
                        + names(method.getParameterTypes()) + ")" + thrown(method.getExceptionTypes()));
            }
        }
        need(found.equals(face), "the members are " + found + ", due are " + face);
        checkNames(Lastbus.class, faceNames);
        for (Field field : Lastbus.class.getDeclaredFields()) {
            need(Modifier.isPrivate(field.getModifiers()), "a field that is not private: " + field);
        }
        for (Class<?> inside : Lastbus.class.getDeclaredClasses()) {
            need(Modifier.isPrivate(inside.getModifiers()) && Modifier.isStatic(inside.getModifiers()), "" + inside);
            checkNames(inside, faceNames);
        }
        need(Modifier.isFinal(Lastbus.class.getModifiers()), "the class is not final");
    }

    private static void checkNames(Class<?> in, Set<String> faceNames) {
        for (Method method : in.getDeclaredMethods()) {
            boolean isOfFace = in == Lastbus.class && Modifier.isPublic(method.getModifiers());
            need(isOfFace || !faceNames.contains(method.getName()), "bears the name of a public one: " + method);
        }
    }

    public static void main(String[] args) throws IOException {
        Set<String> face = faceOfDocument();
        need(face.size() == 53, "the document's face has " + face.size() + " members");
        checkMembers(face);
        System.out.println("FaceTests: " + wrong + " wrong");
        if (wrong > 0) {
            System.exit(1);
        }
    }
}
