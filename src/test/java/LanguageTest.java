import java.lang.reflect.Constructor;
import java.lang.reflect.Field;
import java.lang.reflect.Method;
import java.lang.reflect.Modifier;
import java.nio.charset.StandardCharsets;
import java.nio.file.Files;
import java.nio.file.Path;
import java.util.Arrays;
import java.util.Set;
import java.util.TreeSet;
import java.util.regex.Matcher;
import java.util.regex.Pattern;

/** The face of the class, and the rules of LANGUAGE.md that its source and its shape can tell. */
public final class LanguageTest {
    private static final String FACE = "again/2 about/2 ask/0 beside/3 book/2 breakAt/3 candidate/1 choose/0 "
            + "chosen/0 comes/1 count/1 dead/2 edition/1 end/1 fault/1 feed/5 from/2 gone/2 index/1 lacking/1 "
            + "lay/0 leave/1 leaveOn/2 left/2 may/4 order/1 pass/1 place/2 poem/4 printed/1 royalty/1 rule/1 "
            + "rules/0 share/1 text/3 translated/3 withdraw/1 worth/1";
    private static final String[] RULED_OUT = {"throw", "throws", "try", "catch", "finally", "synchronized", "assert",
        "new Object", "Exact", "Random", "System\\.(?!arraycopy)", "Thread", "->", "::", "static\\s*\\{", "Object",
        "Class", "var", "record", "volatile", "native", "transient", "Integer\\.[A-Z]", "Long\\.[A-Z]"};

    private LanguageTest() {
    }

    public static void main(String[] args) throws Exception {
        face();
        constants();
        shape(PoetsBook.class);
        int classes = 1;
        for (Class<?> inner : PoetsBook.class.getDeclaredClasses()) {
            classes++;
            Check.holds("rule 1: " + inner + " is static, not public",
                    Modifier.isStatic(inner.getModifiers()) && !Modifier.isPublic(inner.getModifiers()));
            shape(inner);
        }
        Check.holds("rule 11: " + classes + " classes", classes <= 12);
        source(Files.readString(Path.of("src/main/java/PoetsBook.java"), StandardCharsets.ISO_8859_1));
        Check.finish();
    }

    private static void face() {
        Set<String> found = new TreeSet<>();
        for (Method method : PoetsBook.class.getDeclaredMethods()) {
            if (Modifier.isPublic(method.getModifiers())) {
                found.add(method.getName() + "/" + method.getParameterCount());
                Check.holds("rule 1: " + method + " takes and answers int", method.getReturnType() == int.class
                        && Arrays.stream(method.getParameterTypes()).allMatch(type -> type == int.class)
                        && !Modifier.isStatic(method.getModifiers()));
            } else {
                Check.holds("rule 1: " + method + " is private", Modifier.isPrivate(method.getModifiers()));
            }
        }
        Check.holds("rule 1: the face is " + found, found.equals(new TreeSet<>(Arrays.asList(FACE.split(" ")))));
        Constructor<?>[] constructors = PoetsBook.class.getDeclaredConstructors();
        Check.holds("rule 1: one constructor", constructors.length == 1
                && Modifier.isPublic(constructors[0].getModifiers()) && constructors[0].getParameterCount() == 0);
        int modifiers = PoetsBook.class.getModifiers();
        Check.holds("rule 1: public and final", Modifier.isPublic(modifiers) && Modifier.isFinal(modifiers));
    }

    private static void constants() {
        Check.due("NONE", PoetsBook.NONE, -1);
        Check.due("RANGE", PoetsBook.RANGE, -2);
        Check.due("FULL", PoetsBook.FULL, -3);
        Check.due("STATE", PoetsBook.STATE, -4);
        for (Field field : PoetsBook.class.getDeclaredFields()) {
            boolean isFace = Set.of("NONE", "RANGE", "FULL", "STATE").contains(field.getName());
            Check.holds("rule 1: " + field, isFace ? Modifier.isPublic(field.getModifiers())
                    : Modifier.isPrivate(field.getModifiers()));
        }
    }

    private static void shape(Class<?> type) {
        int fields = 0;
        for (Field field : type.getDeclaredFields()) {
            if (Modifier.isStatic(field.getModifiers())) {
                Check.holds("rule 5: " + field + " is final", Modifier.isFinal(field.getModifiers()));
            } else {
                fields++;
            }
        }
        Check.holds("rule 11: " + fields + " fields of " + type, fields <= 20);
        for (Method method : type.getDeclaredMethods()) {
            Check.holds("rule 11: " + method, method.getParameterCount() <= 7);
            boolean hasFaceName = Arrays.stream(FACE.split(" ")).anyMatch(f -> f.startsWith(method.getName() + "/"));
            Check.holds("rule 1: " + method + " bears a public one's name",
                    !hasFaceName || type == PoetsBook.class && Modifier.isPublic(method.getModifiers()));
        }
    }

    private static void source(String source) {
        Check.holds("rule 4: signs 1 to 127", source.chars().allMatch(sign -> sign > 0 && sign < 128));
        String code = source.replaceAll("(?s)/\\*.*?\\*/", "").replaceAll("//[^\n]*", "")
                .replaceAll("\"[^\"]*\"", "\"\"");
        for (String word : RULED_OUT) {
            String pattern = Character.isLetter(word.charAt(0)) ? "\\b" + word : word;
            pattern += Character.isLetter(word.charAt(word.length() - 1)) ? "\\b" : "";
            Check.holds("no " + word, !Pattern.compile(pattern).matcher(code).find());
        }
        Matcher imports = Pattern.compile("import ([^;]*);").matcher(code);
        while (imports.find()) {
            Check.holds("rule 4: " + imports.group(1),
                    Set.of("java.util.Arrays", "java.util.ArrayList", "java.util.List").contains(imports.group(1)));
        }
        methodsAreShort(source.split("\n"));
    }

    private static void methodsAreShort(String[] lines) {
        int begun = -1;
        String end = "";
        for (int i = 0; i < lines.length; i++) {
            Matcher head = Pattern.compile("^( {4}| {8})[A-Za-z][^=;]*\\) \\{$").matcher(lines[i]);
            if (begun < 0 && head.matches()) {
                begun = i;
                end = head.group(1) + "}";
            } else if (begun >= 0 && lines[i].equals(end)) {
                Check.holds("rule 11: a method of " + (i - begun + 1) + " lines at " + (begun + 1), i - begun < 60);
                begun = -1;
            }
        }
    }
}
