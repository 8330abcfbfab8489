import java.io.IOException;
import java.lang.reflect.Constructor;
import java.lang.reflect.Executable;
import java.lang.reflect.Field;
import java.lang.reflect.Method;
import java.lang.reflect.Modifier;
import java.nio.file.Files;
import java.nio.file.Path;
import java.util.ArrayList;
import java.util.HashSet;
import java.util.List;
import java.util.Set;
import java.util.TreeSet;

/** The face is the document's and no more, and all members keep to LANGUAGE.md's rules 1, 5, 6 and 11. */
public final class FaceTest {
    private static final String[] FACE = {
        "static int NONE", "static int SHAPE", "static int LARGE", "MatrixDesk()",
        "void make(int, int, int)", "void put(int, int, int, long)", "long at(int, int, int)",
        "int size(int, int)", "int combine(int, int, int, int, int)", "int multiply(int, int, int)",
        "void turn(int, int)", "int rank(int)", "int hermite(int, int)", "int kernel(int, int)",
        "int solve(int, int, int)", "int determinant(int)", "int divisor(int, int)", "int factor(int, int)",
        "int inverse(int, int, int)", "int characteristic(int, int)", "int character(int)",
        "boolean same(int, int)", "int check(int)"};
    private static final Due due = new Due("FaceTest");

    public static void main(String[] args) throws IOException {
        Class<?> desk = MatrixDesk.class;
        due.truth("the class is public and final",
            Modifier.isPublic(desk.getModifiers()) && Modifier.isFinal(desk.getModifiers()));
        due.text("the face", face(desk).toString(), new TreeSet<>(List.of(FACE)).toString());
        Set<String> names = new HashSet<>();
        for (Method method : desk.getDeclaredMethods()) {
            if (Modifier.isPublic(method.getModifiers())) {
                names.add(method.getName());
            }
        }
        due.truth("some twelve classes at most", desk.getDeclaredClasses().length <= 12);
        List<Class<?>> all = new ArrayList<>(List.of(desk.getDeclaredClasses()));
        for (Class<?> inside : all) {
            due.truth(inside + " is private or package-visible",
                !Modifier.isPublic(inside.getModifiers()) && !Modifier.isProtected(inside.getModifiers()));
        }
        all.add(desk);
        for (Class<?> type : all) {
            members(type);
            for (Method method : type.getDeclaredMethods()) {
                due.truth(method + " bears no name of the face",
                    !Modifier.isPrivate(method.getModifiers()) || !names.contains(method.getName()));
            }
        }
        heads();
        due.end();
    }

    /** The program has each head as the document writes it, with the names of what it takes and what it throws. */
    private static void heads() throws IOException {
        String program = Files.readString(Path.of("src", "main", "java", "MatrixDesk.java")).replaceAll("\\s+", " ");
        List<String> face = new ArrayList<>();
        List<String> promises = new ArrayList<>();
        for (String line : Files.readAllLines(Path.of("..", "shared", "DOC.md"))) {
            if (line.matches("    public .*;")) {
                face.add(line.contains("=") ? line.trim() : line.trim().replace(";", " {"));
            } else if (line.matches("`[^`=]*\\([^`]*`: .*")) {
                promises.add("public " + line.substring(1, line.indexOf('`', 1)) + " {");
            }
        }
        due.number("heads in the document's face", face.size(), FACE.length);
        due.number("heads in the document's promises", promises.size(), 20);
        face.addAll(promises);
        for (String head : face) {
            due.truth("the program has: " + head, program.contains(" " + head));
        }
    }

    /** What is not private, written as in the list above. */
    private static Set<String> face(Class<?> desk) {
        Set<String> face = new TreeSet<>();
        for (Field field : desk.getDeclaredFields()) {
            if (!Modifier.isPrivate(field.getModifiers())) {
                face.add((Modifier.isStatic(field.getModifiers()) ? "static " : "") + field.getType() + " "
                    + field.getName());
            }
        }
        for (Constructor<?> constructor : desk.getDeclaredConstructors()) {
            if (!Modifier.isPrivate(constructor.getModifiers())) {
                face.add(constructor.getName() + parameters(constructor));
            }
        }
        for (Method method : desk.getDeclaredMethods()) {
            if (!Modifier.isPrivate(method.getModifiers())) {
                face.add(method.getReturnType() + " " + method.getName() + parameters(method));
            }
        }
        return face;
    }

    private static String parameters(Executable call) {
        List<String> types = new ArrayList<>();
        for (Class<?> type : call.getParameterTypes()) {
            types.add(type.getName());
        }
        return "(" + String.join(", ", types) + ")";
    }

    private static void members(Class<?> type) {
        int fields = 0;
        for (Field field : type.getDeclaredFields()) {
            boolean constant = Modifier.isStatic(field.getModifiers());
            due.truth(field + " is final if it is static", !constant || Modifier.isFinal(field.getModifiers()));
            fields += constant ? 0 : 1;
        }
        due.truth(type + " has some twenty fields at most", fields <= 20);
        for (Method method : type.getDeclaredMethods()) {
            due.truth(method + " takes at most seven", method.getParameterCount() <= 7);
            due.truth(method + " is no lambda", !method.getName().startsWith("lambda$"));
            due.truth(method + " is neither synchronized nor native",
                !Modifier.isSynchronized(method.getModifiers()) && !Modifier.isNative(method.getModifiers()));
        }
    }
}
