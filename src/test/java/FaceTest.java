import java.io.IOException;
import java.lang.reflect.Constructor;
import java.lang.reflect.Executable;
import java.lang.reflect.Field;
import java.lang.reflect.Method;
import java.lang.reflect.Modifier;
import java.nio.file.Files;
import java.nio.file.Path;
import java.util.ArrayList;
import java.util.List;

/** The public face is the one that the document shows, and nothing else of the class is seen. */
public final class FaceTest {
    private static final Path DOCUMENT = Path.of("../shared/DOC.md");

    private FaceTest() {
    }

    public static void main(String[] args) throws IOException, IllegalAccessException {
        Class<?> face = CaptionAlbum.class;
        Due.is("modifiers", Modifier.toString(face.getModifiers()), "public final");
        Due.is("superclass", face.getSuperclass(), Object.class);
        Due.is("interfaces", face.getInterfaces().length, 0);
        Due.is("package", face.getPackageName(), "");
        Due.is("NONE", CaptionAlbum.NONE, -1);
        if (Files.exists(DOCUMENT)) {
            compare("the face", seenMembers(face), documentedMembers());
            compare("the promises", seenCalls(face), promisedCalls());
        } else {
            System.out.println(DOCUMENT + " is not there: the face is not looked up");
        }
        for (Class<?> inside : face.getDeclaredClasses()) {
            int modifiers = inside.getModifiers();
            boolean hidden = !Modifier.isPublic(modifiers) && !Modifier.isProtected(modifiers);
            Due.is(inside.getName() + " is hidden", hidden, true);
            Due.is(inside.getName() + " is static", Modifier.isStatic(modifiers), true);
        }
        Due.end("FaceTest");
    }

    private static void compare(String with, List<String> seen, List<String> told) {
        Due.is("members told by " + with, told.size() > 50, true);
        Due.is("members more than in " + with, without(seen, told), List.of());
        Due.is("members missing of " + with, without(told, seen), List.of());
    }

    private static List<String> without(List<String> some, List<String> others) {
        List<String> rest = new ArrayList<>(some);
        rest.removeAll(others);
        return rest;
    }

    /** The members that are not private, as the document writes them, but without "public". */
    private static List<String> seenMembers(Class<?> face) throws IllegalAccessException {
        List<String> members = seenCalls(face);
        for (Field field : face.getDeclaredFields()) {
            int modifiers = field.getModifiers();
            if (!Modifier.isPrivate(modifiers)) {
                Object value = Modifier.isStatic(modifiers) ? field.get(null) : "";
                members.add(withoutPublic(modifiers) + field.getType().getSimpleName() + " "
                        + field.getName() + " = " + value);
            }
        }
        return members;
    }

    private static String withoutPublic(int modifiers) {
        String others = Modifier.toString(modifiers & ~Modifier.PUBLIC);
        String odd = Modifier.isPublic(modifiers) ? "" : "not public ";
        return odd + (others.isEmpty() ? "" : others + " ");
    }

    /** The constructors and methods that are not private. */
    private static List<String> seenCalls(Class<?> face) {
        List<String> calls = new ArrayList<>();
        for (Constructor<?> made : face.getDeclaredConstructors()) {
            addCall(calls, made, "CaptionAlbum");
        }
        for (Method method : face.getDeclaredMethods()) {
            addCall(calls, method, method.getReturnType().getSimpleName() + " " + method.getName());
        }
        return calls;
    }

    private static void addCall(List<String> calls, Executable call, String name) {
        int modifiers = call.getModifiers();
        if (Modifier.isPrivate(modifiers) || call.isSynthetic()) {
            return;
        }
        calls.add(withoutPublic(modifiers) + name + "(" + typesOf(call.getParameterTypes()) + ")"
                + (call.getExceptionTypes().length > 0 ? " throws " : "")
                + typesOf(call.getExceptionTypes()));
    }

    private static String typesOf(Class<?>[] types) {
        List<String> names = new ArrayList<>();
        for (Class<?> type : types) {
            names.add(type.getSimpleName());
        }
        return String.join(", ", names);
    }

    private static List<String> documentedMembers() throws IOException {
        List<String> members = new ArrayList<>();
        boolean inFace = false;
        for (String line : Files.readAllLines(DOCUMENT)) {
            if (line.startsWith("public final class CaptionAlbum")) {
                inFace = true;
            } else if (line.equals("}")) {
                inFace = false;
            } else if (inFace) {
                members.add(withoutNames(line.replaceAll("^ *public |;$", "")));
            }
        }
        return members;
    }

    private static List<String> promisedCalls() throws IOException {
        List<String> calls = new ArrayList<>();
        boolean signature = false;
        for (String line : Files.readAllLines(DOCUMENT)) {
            if (line.startsWith("## Promise ")) {
                signature = true;
            } else if (signature && line.startsWith("`")) {
                calls.add(withoutNames(line.replace("`", "")));
                signature = false;
            }
        }
        return calls;
    }

    /** A signature whose parameters are told by their types alone. */
    private static String withoutNames(String signature) {
        return signature.replaceAll("(int|boolean) [a-z]+[0-9]?(?=[,)])", "$1");
    }
}
