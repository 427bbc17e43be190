import java.io.DataInputStream;
import java.io.IOException;
import java.io.InputStream;
import java.lang.reflect.Constructor;
import java.lang.reflect.Executable;
import java.lang.reflect.Field;
import java.lang.reflect.Method;
import java.lang.reflect.Modifier;
import java.nio.file.Files;
import java.nio.file.Path;
import java.util.ArrayList;
import java.util.List;
import java.util.Set;
import java.util.TreeSet;

/** The class's face is the document's and no more, and its text keeps to what can be seen of the language's rules. */
public final class FaceTest {
    private static final Path PROGRAM = Path.of("src", "main", "java", "RootChunks.java");

    private static final String[] METHODS = {"putIn(int,int)", "takeOut(int)", "set(int,int)", "turn(int,int)",
        "add(int,int,int)", "move(int,int,int)", "rotate(int,int,int)", "at(int)", "chunk(int,int)", "count(int)",
        "kth(int,int,int)", "below(int,int,int)", "sum(int,int)", "unlike(int,int)", "find(int,int)",
        "costOfTurn(int,int)", "put(long)", "wipe()", "fault()", "carryOut()", "undo()", "save(int)", "restore(int)"};
    private static final String[] CONSTANTS = {"NO_SUCH", "BAD_VALUE", "BAD_TEXT", "TOO_MANY", "NOT_POSSIBLE", "NONE"};
    private static final String[] RULED_OUT = {"import", "package", "throw", "throws", "try", "catch", "synchronized",
        "assert", "lambda", "[a-z]+Exact", "System.out", "Object", "equals", "hashCode", "toString", "volatile", "transient"};

    private static final Set<Class<?>> CONSTANT_TYPES = Set.of(int.class, long.class, boolean.class, char.class, String.class);
    /** Of the language's rule 4, with what every class calls: the constructor of the class above it. */
    private static final Set<String> LIBRARY = Set.of("java/lang/Object.<init>", "java/lang/Math.max", "java/lang/Math.min",
        "java/lang/Math.abs", "java/lang/Math.floorDiv", "java/lang/Math.floorMod", "java/lang/System.arraycopy",
        "java/lang/String.length", "java/lang/String.charAt", "java/lang/String.isEmpty", "java/util/Arrays.fill");
    private static final int UTF8 = 1, LONG = 5, DOUBLE = 6, CLASS = 7, STRING = 8, METHOD = 10, INTERFACE_METHOD = 11,
        METHOD_HANDLE = 15, METHOD_TYPE = 16, DYNAMIC = 17, INVOKE_DYNAMIC = 18;

    private static final Check CHECK = new Check();

    public static void main(String[] args) throws IOException {
        faceIsTheDocuments();
        noPrivateMethodBearsThePublicName();
        onlyTheLibraryOfTheRulesIsCalled();
        textKeepsToTheRules(Files.readString(PROGRAM));
        CHECK.end();
    }

    private static void faceIsTheDocuments() {
        CHECK.holds("the class is public and final", RootChunks.class.getModifiers() == (Modifier.PUBLIC | Modifier.FINAL));
        Set<String> methods = new TreeSet<>();
        for (Method method : RootChunks.class.getDeclaredMethods()) {
            if (!Modifier.isPrivate(method.getModifiers())) {
                methods.add(described(method));
                CHECK.holds(described(method) + " is public", method.getModifiers() == Modifier.PUBLIC);
                CHECK.holds(described(method) + " answers an int", method.getReturnType() == int.class);
            }
        }
        CHECK.holds("methods " + methods, methods.equals(new TreeSet<>(List.of(METHODS))));
        Set<String> constants = new TreeSet<>();
        for (Field field : RootChunks.class.getDeclaredFields()) {
            if (!Modifier.isPrivate(field.getModifiers())) {
                constants.add(field.getName());
                CHECK.holds(field.getName() + " is a constant int", field.getType() == int.class
                    && field.getModifiers() == (Modifier.PUBLIC | Modifier.STATIC | Modifier.FINAL));
            }
        }
        CHECK.holds("constants " + constants, constants.equals(new TreeSet<>(List.of(CONSTANTS))));
        Constructor<?>[] constructors = RootChunks.class.getDeclaredConstructors();
        CHECK.holds("one public constructor without arguments", constructors.length == 1
            && constructors[0].getModifiers() == Modifier.PUBLIC && constructors[0].getParameterCount() == 0);
    }

    private static void noPrivateMethodBearsThePublicName() {
        List<Class<?>> classes = new ArrayList<>(List.of(RootChunks.class.getDeclaredClasses()));
        for (Class<?> inside : classes) {
            CHECK.holds(inside.getName() + " is static", Modifier.isStatic(inside.getModifiers()));
        }
        classes.add(RootChunks.class);
        CHECK.holds("some twelve classes at most", classes.size() <= 12);
        CHECK.holds("no local or anonymous class", RootChunks.class.getNestMembers().length == classes.size());
        for (Class<?> one : classes) {
            for (Method method : one.getDeclaredMethods()) {
                boolean bears = false;
                for (String known : METHODS) {
                    bears |= known.startsWith(method.getName() + "(");
                }
                CHECK.holds(one.getName() + "." + method.getName() + " bears no public name",
                    !bears || Modifier.isPublic(method.getModifiers()) && one == RootChunks.class);
                CHECK.holds(described(method) + " takes at most seven", method.getParameterCount() <= 7);
            }
            int fields = 0;
            for (Field field : one.getDeclaredFields()) {
                fields += Modifier.isStatic(field.getModifiers()) ? 0 : 1;
                CHECK.holds(one.getName() + "." + field.getName() + " is no other static state",
                    !Modifier.isStatic(field.getModifiers())
                        || Modifier.isFinal(field.getModifiers()) && CONSTANT_TYPES.contains(field.getType()));
            }
            CHECK.holds(one.getName() + " has some twenty fields at most", fields <= 20);
        }
    }

    private static void onlyTheLibraryOfTheRulesIsCalled() throws IOException {
        for (Class<?> one : RootChunks.class.getNestMembers()) {
            try (InputStream bytes = one.getResourceAsStream("/" + one.getName() + ".class")) {
                for (String called : calledBy(new DataInputStream(bytes))) {
                    CHECK.holds(one.getName() + " may call " + called,
                        called.startsWith("RootChunks") || LIBRARY.contains(called));
                }
            }
        }
    }

    /** The methods that a class file calls, as its constant pool tells them. */
    private static Set<String> calledBy(DataInputStream file) throws IOException {
        file.readLong();
        int size = file.readUnsignedShort();
        int[] tags = new int[size];
        String[] texts = new String[size];
        int[] firsts = new int[size];
        int[] seconds = new int[size];
        for (int i = 1; i < size; i++) {
            tags[i] = file.readUnsignedByte();
            switch (tags[i]) {
                case UTF8: texts[i] = file.readUTF(); break;
                case CLASS: case STRING: case METHOD_TYPE: firsts[i] = file.readUnsignedShort(); break;
                case METHOD_HANDLE: file.readUnsignedByte(); file.readUnsignedShort(); break;
                // These take the place of two.
                case LONG: case DOUBLE: file.readLong(); i++; break;
                default: firsts[i] = file.readUnsignedShort(); seconds[i] = file.readUnsignedShort(); break;
            }
        }
        Set<String> called = new TreeSet<>();
        for (int i = 1; i < size; i++) {
            if (tags[i] == METHOD || tags[i] == INTERFACE_METHOD) {
                called.add(texts[firsts[firsts[i]]] + "." + texts[firsts[seconds[i]]]);
            }
            if (tags[i] == METHOD_HANDLE || tags[i] == DYNAMIC || tags[i] == INVOKE_DYNAMIC) {
                called.add("what is made when it is called");
            }
        }
        return called;
    }

    private static void textKeepsToTheRules(String text) {
        String code = text.replaceAll("(?s)/\\*.*?\\*/", " ").replaceAll("//[^\n]*", " ").replaceAll("\"[^\"\n]*\"", "\"\"");
        for (String word : RULED_OUT) {
            CHECK.holds("no " + word, !code.matches("(?s).*\\b" + word.replace(".", "\\.") + "\\b.*"));
        }
        CHECK.holds("no lambda and no pattern arrow", !code.contains("->"));
        CHECK.holds("no method reference", !code.contains("::"));
        CHECK.holds("signs are 1 to 127", text.chars().allMatch(sign -> sign > 0 && sign < 128));
    }

    private static String described(Executable method) {
        List<String> types = new ArrayList<>();
        for (Class<?> type : method.getParameterTypes()) {
            types.add(type.getName());
        }
        return method.getName() + "(" + String.join(",", types) + ")";
    }
}
