import java.io.IOException;
import java.lang.reflect.Array;
import java.lang.reflect.Field;
import java.lang.reflect.Method;
import java.lang.reflect.Modifier;
import java.nio.file.Files;
import java.nio.file.Path;
import java.util.HashSet;
import java.util.IdentityHashMap;
import java.util.List;
import java.util.Set;
import java.util.regex.Matcher;
import java.util.regex.Pattern;

/** What of ../shared/LANGUAGE.md can be seen by looking: the face, the words, the sizes. */
public final class KeepsLanguage {
    private static final Path SOURCE = Path.of("src/main/java/ReuseHouse.java");
    private static final Set<String> FACE = Set.of("feed", "program", "fault", "where", "about", "run", "plain", "show",
        "out", "release", "count");
    private static int wrong = 0;

    public static void main(String[] args) throws IOException, IllegalAccessException {
        String text = Files.readString(SOURCE);
        String code = text.replaceAll("(?s)/\\*.*?\\*/", "").replaceAll("//[^\n]*", "")
            .replaceAll("\"[^\"\n]*\"", "\"\"").replaceAll("'[^'\n]*'", "' '");
        face();
        words(code);
        sizes(code);
        room();
        System.out.println(wrong == 0 ? "the language is kept" : wrong + " rules are not kept");
        if (wrong != 0) {
            System.exit(1);
        }
    }

    private static void must(boolean holds, String rule) {
        if (!holds) {
            wrong++;
            System.out.println("not kept: " + rule);
        }
    }

    private static void face() {
        Set<String> open = new HashSet<>();
        for (Method method : ReuseHouse.class.getDeclaredMethods()) {
            if (!Modifier.isPrivate(method.getModifiers()) && !method.isSynthetic()) {
                open.add(method.getName());
            }
        }
        must(open.equals(FACE), "the public methods are " + open);
        for (Field field : ReuseHouse.class.getDeclaredFields()) {
            must(Modifier.isPrivate(field.getModifiers()) || field.getName().equals("NONE"), field + " is not private");
        }
        for (Class<?> inside : ReuseHouse.class.getDeclaredClasses()) {
            must(Modifier.isStatic(inside.getModifiers()), inside + " is not static");
            for (Method method : inside.getDeclaredMethods()) {
                must(!FACE.contains(method.getName()), method + " bears a public name");
            }
        }
        must(ReuseHouse.class.getDeclaredClasses().length <= 11, "more than twelve classes");
    }

    private static void words(String code) {
        for (String word : List.of("->", "::", "synchronized", "assert", "finally", "System", "Thread", "Random",
            "getMessage", "ArrayIndexOutOfBoundsException", "IndexOutOfBoundsException", "NullPointerException",
            "ClassCastException", "Throwable", "Exception e)", "(RuntimeException", "Error", "Exact")) {
            must(!code.contains(word), "the source has " + word);
        }
        Matcher imports = Pattern.compile("import ([^;]*);").matcher(code);
        while (imports.find()) {
            must(imports.group(1).equals("java.util.NoSuchElementException"), "import " + imports.group(1));
        }
        must(!code.contains("package "), "a package");
    }

    private static void sizes(String code) {
        String[] lines = code.split("\n");
        Pattern head = Pattern.compile("^ {4}(    )?[a-zA-Z].*\\(([^()]*)\\).*\\{$");
        int from = -1;
        String end = "";
        for (int i = 0; i < lines.length; i++) {
            Matcher matcher = head.matcher(lines[i]);
            if (from < 0 && matcher.matches()) {
                from = i;
                end = lines[i].startsWith("        ") ? "        }" : "    }";
                must(matcher.group(2).split(",").length <= 7, "more than seven parameters: " + lines[i].trim());
            } else if (from >= 0 && lines[i].equals(end)) {
                must(i - from <= 60, "a long method: " + lines[from].trim());
                from = -1;
            }
        }
    }

    /** An object with all that hangs on it must be a small part of the room of a run. */
    private static void room() throws IllegalAccessException {
        IdentityHashMap<Object, Boolean> seen = new IdentityHashMap<>();
        long elements = 0;
        java.util.ArrayDeque<Object> left = new java.util.ArrayDeque<>();
        left.add(new ReuseHouse());
        while (!left.isEmpty()) {
            Object object = left.remove();
            if (seen.put(object, true) != null) {
                continue;
            }
            if (object.getClass().isArray()) {
                elements += Array.getLength(object);
                continue;
            }
            for (Field field : object.getClass().getDeclaredFields()) {
                if (Modifier.isStatic(field.getModifiers())) {
                    continue;
                }
                elements++;
                field.setAccessible(true);
                if (!field.getType().isPrimitive() && field.get(object) != null) {
                    left.add(field.get(object));
                }
            }
        }
        System.out.println("a new object: " + seen.size() + " objects, " + elements + " fields and elements");
        must(elements < 150000 && seen.size() < 200, "a new object is small");
    }
}
