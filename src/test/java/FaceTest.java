import java.io.IOException;
import java.lang.reflect.Constructor;
import java.lang.reflect.Executable;
import java.lang.reflect.Field;
import java.lang.reflect.Method;
import java.lang.reflect.Modifier;
import java.nio.file.Files;
import java.nio.file.Path;
import java.util.ArrayList;
import java.util.List;
import java.util.Set;
import java.util.TreeSet;

/** The class's face is the document's and no more, and its text keeps to what can be seen of the language's rules. */
public final class FaceTest {
    private static final Path PROGRAM = Path.of("src", "main", "java", "RootChunks.java");

    private static final String[] METHODS = {"putIn(int,int)", "takeOut(int)", "set(int,int)", "turn(int,int)",
        "add(int,int,int)", "move(int,int,int)", "rotate(int,int,int)", "at(int)", "chunk(int,int)", "count(int)",
        "kth(int,int,int)", "below(int,int,int)", "sum(int,int)", "unlike(int,int)", "find(int,int)",
        "costOfTurn(int,int)", "put(long)", "wipe()", "fault()", "carryOut()", "undo()", "save(int)", "restore(int)"};
    private static final String[] CONSTANTS = {"NO_SUCH", "BAD_VALUE", "BAD_TEXT", "TOO_MANY", "NOT_POSSIBLE", "NONE"};
    private static final String[] RULED_OUT = {"import", "package", "throw", "throws", "try", "catch", "synchronized",
        "assert", "lambda", "[a-z]+Exact", "System.out", "Object", "equals", "hashCode", "toString", "volatile", "transient"};

    private static final Check CHECK = new Check();

    public static void main(String[] args) throws IOException {
        faceIsTheDocuments();
        noPrivateMethodBearsThePublicName();
        textKeepsToTheRules(Files.readString(PROGRAM));
        CHECK.end();
    }

    private static void faceIsTheDocuments() {
        CHECK.holds("the class is public and final", RootChunks.class.getModifiers() == (Modifier.PUBLIC | Modifier.FINAL));
        Set<String> methods = new TreeSet<>();
        for (Method method : RootChunks.class.getDeclaredMethods()) {
            if (!Modifier.isPrivate(method.getModifiers())) {
                methods.add(described(method));
                CHECK.holds(described(method) + " is public", method.getModifiers() == Modifier.PUBLIC);
                CHECK.holds(described(method) + " answers an int", method.getReturnType() == int.class);
            }
        }
        CHECK.holds("methods " + methods, methods.equals(new TreeSet<>(List.of(METHODS))));
        Set<String> constants = new TreeSet<>();
        for (Field field : RootChunks.class.getDeclaredFields()) {
            if (!Modifier.isPrivate(field.getModifiers())) {
                constants.add(field.getName());
                CHECK.holds(field.getName() + " is a constant int", field.getType() == int.class
                    && field.getModifiers() == (Modifier.PUBLIC | Modifier.STATIC | Modifier.FINAL));
            }
            CHECK.holds(field.getName() + " is final if it is static",
                !Modifier.isStatic(field.getModifiers()) || Modifier.isFinal(field.getModifiers()));
        }
        CHECK.holds("constants " + constants, constants.equals(new TreeSet<>(List.of(CONSTANTS))));
        Constructor<?>[] constructors = RootChunks.class.getDeclaredConstructors();
        CHECK.holds("one public constructor without arguments", constructors.length == 1
            && constructors[0].getModifiers() == Modifier.PUBLIC && constructors[0].getParameterCount() == 0);
    }

    private static void noPrivateMethodBearsThePublicName() {
        List<Class<?>> classes = new ArrayList<>(List.of(RootChunks.class.getDeclaredClasses()));
        for (Class<?> inside : classes) {
            CHECK.holds(inside.getName() + " is static", Modifier.isStatic(inside.getModifiers()));
        }
        classes.add(RootChunks.class);
        CHECK.holds("no local or anonymous class", RootChunks.class.getNestMembers().length == classes.size());
        for (Class<?> one : classes) {
            for (Method method : one.getDeclaredMethods()) {
                boolean bears = false;
                for (String known : METHODS) {
                    bears |= known.startsWith(method.getName() + "(");
                }
                CHECK.holds(one.getName() + "." + method.getName() + " bears no public name",
                    !bears || Modifier.isPublic(method.getModifiers()) && one == RootChunks.class);
                CHECK.holds(described(method) + " takes at most seven", method.getParameterCount() <= 7);
            }
            int fields = 0;
            for (Field field : one.getDeclaredFields()) {
                fields += Modifier.isStatic(field.getModifiers()) ? 0 : 1;
            }
            CHECK.holds(one.getName() + " has some twenty fields at most", fields <= 20);
        }
    }

    private static void textKeepsToTheRules(String text) {
        String code = text.replaceAll("(?s)/\\*.*?\\*/", " ").replaceAll("//[^\n]*", " ").replaceAll("\"[^\"\n]*\"", "\"\"");
        for (String word : RULED_OUT) {
            CHECK.holds("no " + word, !code.matches("(?s).*\\b" + word.replace(".", "\\.") + "\\b.*"));
        }
        CHECK.holds("no lambda and no pattern arrow", !code.contains("->"));
        CHECK.holds("no method reference", !code.contains("::"));
        CHECK.holds("signs are 1 to 127", text.chars().allMatch(sign -> sign > 0 && sign < 128));
    }

    private static String described(Executable method) {
        List<String> types = new ArrayList<>();
        for (Class<?> type : method.getParameterTypes()) {
            types.add(type.getName());
        }
        return method.getName() + "(" + String.join(",", types) + ")";
    }
}
