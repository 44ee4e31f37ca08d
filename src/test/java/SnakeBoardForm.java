import java.io.IOException;
import java.lang.reflect.Array;
import java.lang.reflect.Constructor;
import java.lang.reflect.Field;
import java.lang.reflect.Method;
import java.lang.reflect.Modifier;
import java.nio.charset.StandardCharsets;
import java.nio.file.Files;
import java.nio.file.Path;
import java.util.Collections;
import java.util.IdentityHashMap;
import java.util.Set;
import java.util.TreeSet;

/** The class's face is the document's, and its text keeps to what LANGUAGE.md allows, as far as a plain look tells. */
public final class SnakeBoardForm {
    private static final String[] FACE = {
        "int feed(int,int,int,int,int)", "int board(int)", "int fault()", "int count(int)", "int exit(int,int)",
        "int goes(int,int)", "int roll(int)", "int rolls(int,int)", "int undo()", "int piece(int)", "int rolled(int,int)",
        "int fewest(int)", "int row(int)", "boolean never(int)", "boolean lost(int)", "int round(int)",
        "long grains(int,int,int)", "long stood(int,int,int)", "int half(int)", "long first(int,int,int,int)",
        "long matters(int,int)", "int most(int)", "int wanted(long,int)", "long ahead(int,int)",
        "int choose(int,int,int,int)", "int often(int)", "long unlike(int)", "int worn()", "int note(int)", "int forget()",
        "int cannot()", "long fits()", "int less()", "int draw(int,int,int)", "long ended(int,int)",
        "long together(int,int,int)", "int whom(int,int,int,int)", "int written(int)", "void image()", "boolean restore()"};
    private static final String[] NOT_ALLOWED = {"->", "::", "finally", "synchronized", "assert", "catch", "Exact(",
        "double", "float", "static {", "protected", "System.out", "Object", "\t", "@"};
    // what all calls of one run may make, if each of them makes an object of the class
    private static final long MOST_OBJECTS = 600_000 / 513;
    private static final long MOST_ELEMENTS = 7_300_000 / 513;
    private static int wrong = 0;

    private static void due(String what, Object got, Object want) {
        if (!got.equals(want)) {
            wrong++;
            System.out.println(what + ": " + got + ", due is " + want);
        }
    }

    public static void main(String[] args) throws IOException {
        checkFace();
        checkInnerClasses();
        checkText();
        checkFaceWordForWord();
        checkRoom();
        System.out.println("form: " + wrong + " wrong");
        if (wrong != 0) {
            System.exit(1);
        }
    }

    private static String signature(Method method) {
        StringBuilder text = new StringBuilder(method.getReturnType().getName() + " " + method.getName() + "(");
        for (Class<?> type : method.getParameterTypes()) {
            text.append(text.charAt(text.length() - 1) == '(' ? "" : ",").append(type.getName());
        }
        return text.append(")").toString();
    }

    private static void checkFace() {
        due("public and final", Modifier.toString(SnakeBoard.class.getModifiers()), "public final");
        due("NONE", SnakeBoard.NONE, -1);
        Set<String> face = new TreeSet<>();
        Set<String> names = new TreeSet<>();
        for (Method method : SnakeBoard.class.getDeclaredMethods()) {
            if (Modifier.isPublic(method.getModifiers())) {
                face.add(signature(method));
                names.add(method.getName());
            } else {
                due(method + " is private", Modifier.isPrivate(method.getModifiers()), true);
            }
        }
        due("the face", face, new TreeSet<>(Set.of(FACE)));
        for (Method method : SnakeBoard.class.getDeclaredMethods()) {
            if (!Modifier.isPublic(method.getModifiers())) {
                due(method + " bears a public one's name", names.contains(method.getName()), false);
            }
        }
        for (Field field : SnakeBoard.class.getDeclaredFields()) {
            due(field + " is private, or NONE", Modifier.isPrivate(field.getModifiers()), !field.getName().equals("NONE"));
            due(field + " is final, if static", Modifier.isStatic(field.getModifiers())
                    && !Modifier.isFinal(field.getModifiers()), false);
        }
        Constructor<?>[] constructors = SnakeBoard.class.getDeclaredConstructors();
        due("constructors", constructors.length, 1);
        due("the constructor", constructors[0].getParameterCount(), 0);
    }

    private static void checkInnerClasses() {
        Class<?>[] inner = SnakeBoard.class.getDeclaredClasses();
        due("at most twelve classes", inner.length + 1 <= 12, true);
        for (Class<?> one : inner) {
            due(one + " is private, static", Modifier.isPrivate(one.getModifiers())
                    && Modifier.isStatic(one.getModifiers()), true);
            for (Method method : one.getDeclaredMethods()) {
                due(method + " has at most seven parameters", method.getParameterCount() <= 7, true);
            }
        }
    }

    private static void checkText() throws IOException {
        String text = Files.readString(Path.of("src/main/java/SnakeBoard.java"), StandardCharsets.ISO_8859_1);
        String code = text.replaceAll("(?s)/\\*.*?\\*/", " ").replaceAll("//[^\n]*", " ");
        for (String sign : NOT_ALLOWED) {
            due("has " + sign, code.contains(sign), false);
        }
        due("signs of ASCII alone", text.chars().allMatch(c -> c < 128), true);
        due("the imports", code.split("import ").length - 1, 2);
        due("a package", code.contains("package "), false);
        for (String line : code.split("\n")) {
            boolean isField = line.matches(" +(private )?(static )?(final )?[\\w\\[\\]]+ \\w+ = new .*;");
            due(line.trim() + " makes an object", line.contains("new ") && !line.contains("throw new ") && !isField, false);
        }
    }

    private static void checkFaceWordForWord() throws IOException {
        String document = Files.readString(Path.of("../shared/DOC.md"), StandardCharsets.UTF_8);
        String code = Files.readString(Path.of("src/main/java/SnakeBoard.java"), StandardCharsets.ISO_8859_1);
        String face = document.substring(document.indexOf("public final class SnakeBoard"), document.indexOf("## Terms"));
        int lines = 0;
        for (String line : face.split("\n")) {
            if (line.startsWith("    public ")) {
                lines++;
                String told = line.contains("(") ? line.replace(";", " {") : line;
                due("the class has" + line, code.contains("\n" + told + "\n"), true);
            }
        }
        due("lines of the face", lines, FACE.length + 2);
    }

    private static void checkRoom() throws IOException {
        Set<Object> seen = Collections.newSetFromMap(new IdentityHashMap<>());
        long[] made = new long[2];
        try {
            countRoom(new SnakeBoard(), seen, made);
        } catch (IllegalAccessException e) {
            due("the room can be counted", false, true);
        }
        due(made[0] + " objects", made[0] > 1 && made[0] <= MOST_OBJECTS, true);
        due(made[1] + " fields and elements", made[1] > 1 && made[1] <= MOST_ELEMENTS, true);
    }

    /** Objects and arrays, and their fields and elements, each once. */
    private static void countRoom(Object one, Set<Object> seen, long[] made) throws IllegalAccessException {
        if (one == null || !seen.add(one)) {
            return;
        }
        made[0]++;
        if (one.getClass().isArray()) {
            made[1] += Array.getLength(one);
            return;
        }
        for (Field field : one.getClass().getDeclaredFields()) {
            if (Modifier.isStatic(field.getModifiers())) {
                continue;
            }
            made[1]++;
            if (!field.getType().isPrimitive()) {
                field.setAccessible(true);
                countRoom(field.get(one), seen, made);
            }
        }
    }
}
