import java.lang.reflect.Constructor;
import java.lang.reflect.Field;
import java.lang.reflect.Method;
import java.lang.reflect.Modifier;
import java.nio.file.Files;
import java.nio.file.Path;
import java.util.Arrays;
import java.util.List;
import java.util.Set;
import java.util.TreeSet;
import java.util.regex.Matcher;
import java.util.regex.Pattern;
import java.util.stream.Collectors;

/** Those rules of LANGUAGE.md that can be read off the source and the compiled class. */
public final class LanguageTest {
    private static final Check CHECK = new Check();

    private static final Set<String> FACE = new TreeSet<>(List.of(
            "feed(int,int,int,int,int)int", "end(int)int", "kingdom()int", "fault(int)int", "road(int,int)int",
            "way(int,int,int)int", "open(int,int)int", "joins(int,int,int)int", "walk(int,int)int", "unlawful()int",
            "steps(int)int", "length(int)int", "saved(int)int", "duty(int)int", "lanes(int)int", "owes(int)int",
            "takings(int)int", "chance(int,int)long", "hope(int,int)long", "shortest(int,int,int)int",
            "hidden(int,int,int)int", "best(int,int,int,int,int)int", "goes(int,int,int,int,int)int",
            "ways(int,int,int)int", "all(int)int", "lane(int,int,int,int)int", "help(int)int", "bend(int,int,int)int",
            "duke(int)int", "watchers(int)int", "by(int,int)int", "rate(int)int", "law(int,int)int",
            "paid(int,int)int", "sure(int,int)int", "ford(int)int", "must(int,int,int,int)int", "seen(int,int)int",
            "caught(int,int)int", "count(int)int", "keep(int)int", "back(int)int", "row(int,int,int)int",
            "write(int,int,long)int", "paste(int,int,int,int,int)int"));

    public static void main(String[] args) throws Exception {
        String source = Files.readString(Path.of(args.length > 0 ? args[0] : "src/main/java/ShortcutDuty.java"));
        face();
        classesInside();
        forbidden(withoutComments(source));
        methodsStayShort(source);
        CHECK.close("LanguageTest");
    }

    private static void holds(String rule, boolean held) {
        CHECK.due(rule, held ? 1 : 0, 1);
    }

    private static String signature(Method m) {
        String types = Arrays.stream(m.getParameterTypes()).map(Class::getName).collect(Collectors.joining(","));
        return m.getName() + "(" + types + ")" + m.getReturnType().getName();
    }

    private static void face() {
        Class<?> face = ShortcutDuty.class;
        Set<String> methods = new TreeSet<>();
        for (Method m : face.getDeclaredMethods()) {
            if (Modifier.isPublic(m.getModifiers())) {
                methods.add(signature(m));
            } else {
                holds("rule 1: private " + m.getName(), Modifier.isPrivate(m.getModifiers()));
            }
        }
        holds("rule 1: the document's methods, not " + methods, methods.equals(FACE));
        for (Field f : face.getDeclaredFields()) {
            boolean isConstant = f.getName().equals("NONE") && Modifier.isPublic(f.getModifiers());
            holds("rule 1: field " + f.getName(), isConstant || Modifier.isPrivate(f.getModifiers()));
        }
        for (Constructor<?> c : face.getDeclaredConstructors()) {
            holds("rule 1: constructor", c.getParameterCount() == 0 && Modifier.isPublic(c.getModifiers()));
        }
        holds("rule 1: final", Modifier.isFinal(face.getModifiers()) && Modifier.isPublic(face.getModifiers()));
    }

    private static void classesInside() {
        Set<String> names = FACE.stream().map(s -> s.substring(0, s.indexOf('('))).collect(Collectors.toSet());
        Class<?>[] inside = ShortcutDuty.class.getDeclaredClasses();
        holds("rule 11: some twelve classes", inside.length + 1 <= 12);
        for (Class<?> c : inside) {
            holds("rule 1: " + c + " is static", Modifier.isStatic(c.getModifiers()));
            for (Method m : c.getDeclaredMethods()) {
                holds("rule 1: " + c + " has " + m.getName(), !names.contains(m.getName()));
                holds("rule 11: parameters of " + m, m.getParameterCount() <= 7);
            }
            long fields = Arrays.stream(c.getDeclaredFields()).filter(f -> !Modifier.isStatic(f.getModifiers())).count();
            holds("rule 11: fields of " + c, fields <= 20);
            for (Field f : c.getDeclaredFields()) {
                holds("rule 5: " + f, !Modifier.isStatic(f.getModifiers()) || Modifier.isFinal(f.getModifiers()));
            }
        }
    }

    private static String withoutComments(String source) {
        return source.replaceAll("(?s)/\\*.*?\\*/", " ").replaceAll("//[^\\n]*", " ").replaceAll("\"[^\"]*\"", "\"\"");
    }

    private static void forbidden(String code) {
        String[] words = {"throw", "throws", "try", "catch", "synchronized", "assert", "import", "package", "double",
            "float", "hashCode", "toString", "Object", "Random", "Thread", "protected", "volatile", "transient",
            "\\w+Exact", "->", "::", "nanoTime", "currentTimeMillis"};
        for (String word : words) {
            Pattern pattern = Pattern.compile(Character.isLetter(word.charAt(0)) || word.startsWith("\\")
                    ? "\\b" + word + "\\b" : Pattern.quote(word));
            holds("rules 2 to 6, 13: " + word, !pattern.matcher(code).find());
        }
        Matcher library = Pattern.compile("\\b(Math|Integer|Long|System|Arrays|String|StringBuilder)\\.(\\w+)").matcher(code);
        Set<String> used = new TreeSet<>();
        while (library.find()) {
            used.add(library.group());
        }
        Set<String> allowed = Set.of("Math.min", "Math.max", "Integer.bitCount", "System.arraycopy");
        holds("rule 4: only " + allowed + ", not " + used, allowed.containsAll(used));
    }

    /** A method begins with a brace at its line's end, four or eight blanks in. */
    private static void methodsStayShort(String source) {
        String[] lines = source.split("\n");
        for (int i = 0; i < lines.length; i++) {
            Matcher begin = Pattern.compile("( {4}| {8})\\w[^=]*\\)\\s*\\{").matcher(lines[i]);
            if (begin.matches()) {
                int end = i;
                while (!lines[end].equals(begin.group(1) + "}")) {
                    end++;
                }
                holds("rule 11: sixty lines at line " + (i + 1), end - i <= 60);
            }
        }
    }
}
