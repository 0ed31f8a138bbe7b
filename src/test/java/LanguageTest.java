import java.io.IOException;
import java.lang.reflect.Field;
import java.lang.reflect.Method;
import java.lang.reflect.Modifier;
import java.nio.file.Files;
import java.nio.file.Path;
import java.util.ArrayList;
import java.util.Arrays;
import java.util.List;
import java.util.TreeSet;
import java.util.regex.Matcher;
import java.util.regex.Pattern;

/** The face of the document, and the rules of LANGUAGE.md that can be read off the source. */
public final class LanguageTest {
    private static final Check c = new Check();
    private static final Path SOURCE = Path.of("src/main/java/BankStore.java");
    private static final Path DOCUMENT = Path.of("../shared/DOC.md");

    public static void main(String[] args) throws IOException {
        String source = Files.readString(SOURCE);
        String code = source.replaceAll("(?s)/\\*.*?\\*/", "").replaceAll("//[^\n]*", "");
        face(Files.readString(DOCUMENT));
        words(code);
        sizes(code);
        names();
        c.finish();
    }

    private static String told(Method method) {
        List<String> types = new ArrayList<>();
        for (Class<?> type : method.getParameterTypes()) {
            types.add(type.getSimpleName());
        }
        return method.getReturnType().getSimpleName() + " " + method.getName() + types;
    }

    private static void face(String document) {
        TreeSet<String> due = new TreeSet<>();
        Matcher m = Pattern.compile("    public (int) (\\w+)\\((.*)\\);").matcher(document);
        while (m.find()) {
            List<String> types = new ArrayList<>();
            for (String parameter : m.group(3).isEmpty() ? new String[0] : m.group(3).split(", ")) {
                types.add(parameter.split(" ")[0]);
            }
            due.add(m.group(1) + " " + m.group(2) + types);
        }
        TreeSet<String> open = new TreeSet<>();
        for (Method method : BankStore.class.getDeclaredMethods()) {
            if (!Modifier.isPrivate(method.getModifiers())) {
                open.add((Modifier.isPublic(method.getModifiers()) ? "" : "not public: ") + told(method));
            }
        }
        c.holds("the methods are those of the document: " + open, open.equals(due) && due.size() == 34);
        TreeSet<String> fields = new TreeSet<>();
        for (Field field : BankStore.class.getDeclaredFields()) {
            if (!Modifier.isPrivate(field.getModifiers())) {
                fields.add(field.getName());
            }
        }
        c.holds("the constants are those of the document",
                fields.equals(new TreeSet<>(Arrays.asList("BAD", "STATE", "FULL", "NONE", "SPENT"))));
        c.holds("public and final", Modifier.isPublic(BankStore.class.getModifiers())
                && Modifier.isFinal(BankStore.class.getModifiers()));
        c.due("constructors", BankStore.class.getDeclaredConstructors().length, 1);
    }

    private static void words(String code) {
        for (String word : new String[] {"throw", "throws", "try", "catch", "synchronized", "assert", "\\w+Exact",
            "->", "::", "System\\.(?!arraycopy)", "Thread", "Random", "package", "protected"}) {
            String bounded = word.matches("\\w+|.*Exact") ? "\\b" + word + "\\b" : word;
            c.holds("no " + word, !Pattern.compile(bounded).matcher(code).find());
        }
        Matcher imports = Pattern.compile("import ([^;]+);").matcher(code);
        while (imports.find()) {
            c.holds("import " + imports.group(1), imports.group(1).matches("java\\.util\\.(Arrays|ArrayList|List)"));
        }
        c.holds("static fields are final", !Pattern.compile("static (?!final)[\\w\\[\\]]+ \\w+( =|;|,)").matcher(code).find());
    }

    private static void sizes(String code) {
        String[] lines = code.split("\n");
        int start = -1;
        String indent = "";
        for (int k = 0; k < lines.length; k++) {
            Matcher head = Pattern.compile("^( {4}| {8})(?! )[\\w\\[\\] ]*\\w+\\(([^)]*)\\) \\{$").matcher(lines[k]);
            if (head.find()) {
                start = k;
                indent = head.group(1);
                c.holds("at most seven parameters: " + lines[k].trim(), head.group(2).split(",").length <= 7);
            }
            if (start >= 0 && lines[k].equals(indent + "}")) {
                c.holds("at most sixty lines: " + lines[start].trim(), k - start < 60);
                start = -1;
            }
        }
        c.holds("at most twelve classes", Pattern.compile("\\bclass \\w+").matcher(code).results().count() <= 12);
    }

    /** No private method bears the name of a public one, in the classes inside either. */
    private static void names() {
        TreeSet<String> open = new TreeSet<>();
        for (Method method : BankStore.class.getMethods()) {
            open.add(method.getName());
        }
        List<Class<?>> all = new ArrayList<>(Arrays.asList(BankStore.class.getDeclaredClasses()));
        all.add(BankStore.class);
        for (Class<?> each : all) {
            c.holds("static: " + each, each == BankStore.class || Modifier.isStatic(each.getModifiers()));
            int fields = 0;
            for (Field field : each.getDeclaredFields()) {
                fields += Modifier.isStatic(field.getModifiers()) ? 0 : 1;
            }
            c.holds("at most twenty fields: " + each, fields <= 20);
            for (Method method : each.getDeclaredMethods()) {
                boolean face = each == BankStore.class && Modifier.isPublic(method.getModifiers());
                c.holds("name " + method.getName(), face || !open.contains(method.getName()));
            }
        }
    }
}
