import java.io.IOException;
import java.lang.reflect.Constructor;
import java.lang.reflect.Field;
import java.lang.reflect.Method;
import java.lang.reflect.Modifier;
import java.nio.charset.StandardCharsets;
import java.nio.file.Files;
import java.util.ArrayList;
import java.util.Collections;
import java.util.HashSet;
import java.util.List;
import java.util.Set;
import java.util.regex.Matcher;
import java.util.regex.Pattern;

/** The public face of the document, and no other member that others could see. */
final class FaceTest {
    private static final String[] METHODS = {
        "int append(int,int,int,int,int)", "int parse(int)", "int errorPosition()", "int size(int)", "int find(int)",
        "int turn(int)", "int player(int,int)", "boolean isFree(int,int)", "int work(int,int)", "int seat(int,int)",
        "int service(int,int)", "int cast(int,int,int)", "int serviceAt(int,int)", "int fewestDoublings(int,int)",
        "int whyNot(int,int,int,boolean)", "int earliest(int,int,int,boolean)", "int whyNotMove(int,int)",
        "int costs(int)", "int costsWith(int,int,int,boolean)", "boolean isBalanced()", "boolean isWithoutClash()",
        "int busiest()", "int rehearse(int,int,int)", "int concert(int,int,int)", "int cancel(int)",
        "int move(int,int)", "int recast(int)", "int setContract(int,int)", "int undo()", "boolean saveSnapshot(int)",
        "int restoreSnapshot(int)",
    };

    private FaceTest() {
    }

    static void run() throws IOException {
        Class<?> face = OrchestraSeason.class;
        Checks.due("NONE", -1, OrchestraSeason.NONE);
        Checks.dueTrue("the class is public and final",
                Modifier.isPublic(face.getModifiers()) && Modifier.isFinal(face.getModifiers()));
        Checks.due("constructors", 1, face.getDeclaredConstructors().length);
        for (Constructor<?> constructor : face.getDeclaredConstructors()) {
            Checks.dueTrue("the constructor is public", Modifier.isPublic(constructor.getModifiers()));
        }
        for (Field field : face.getDeclaredFields()) {
            boolean isConstant = field.getName().equals("NONE");
            Checks.dueTrue("field " + field.getName(),
                    isConstant ? Modifier.isPublic(field.getModifiers()) : Modifier.isPrivate(field.getModifiers()));
        }
        methods(face);
        exceptionsOfDocument(face);
        for (Class<?> inside : face.getDeclaredClasses()) {
            Checks.dueTrue(inside.getName() + " is private and static",
                    Modifier.isPrivate(inside.getModifiers()) && Modifier.isStatic(inside.getModifiers()));
        }
    }

    private static void methods(Class<?> face) {
        List<String> due = new ArrayList<>(List.of(METHODS));
        List<String> seen = new ArrayList<>();
        Set<String> publicNames = new HashSet<>();
        for (Method method : face.getDeclaredMethods()) {
            if (!Modifier.isPrivate(method.getModifiers())) {
                seen.add(signature(method));
                publicNames.add(method.getName());
            }
        }
        Collections.sort(due);
        Collections.sort(seen);
        Checks.dueText("the methods of the face", due.toString(), seen.toString());
        privateNames(face, publicNames);
        for (Class<?> inside : face.getDeclaredClasses()) {
            privateNames(inside, publicNames);
        }
    }

    private static void privateNames(Class<?> type, Set<String> publicNames) {
        for (Method method : type.getDeclaredMethods()) {
            if (Modifier.isPrivate(method.getModifiers())) {
                Checks.dueFalse("private " + method.getName() + " has a public name",
                        publicNames.contains(method.getName()));
            }
        }
    }

    /** The exceptions that the document's face tells for each method are those that the method declares. */
    private static void exceptionsOfDocument(Class<?> face) throws IOException {
        if (!Files.isReadable(Sentences.DOCUMENT)) {
            return;
        }
        String document = Files.readString(Sentences.DOCUMENT, StandardCharsets.UTF_8);
        int told = 0;
        for (Method method : face.getDeclaredMethods()) {
            Matcher line = Pattern.compile("\n    public \\w+ " + method.getName() + "\\([^)]*\\)( throws ([^;]*))?;")
                    .matcher(document);
            if (Modifier.isPublic(method.getModifiers()) && line.find()) {
                told++;
                StringBuilder declared = new StringBuilder();
                for (Class<?> exception : method.getExceptionTypes()) {
                    declared.append(declared.length() == 0 ? "" : ", ").append(exception.getSimpleName());
                }
                Checks.dueText(method.getName() + " throws", line.group(2) == null ? "" : line.group(2),
                        declared.toString());
            }
        }
        Checks.due("methods in the document's face", METHODS.length, told);
    }

    private static String signature(Method method) {
        StringBuilder text = new StringBuilder(method.getReturnType().getName() + " " + method.getName() + "(");
        String comma = "";
        for (Class<?> type : method.getParameterTypes()) {
            text.append(comma).append(type.getName());
            comma = ",";
        }
        return text.append(")").toString();
    }
}
