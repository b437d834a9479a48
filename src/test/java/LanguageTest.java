import java.io.IOException;
import java.lang.management.ManagementFactory;
import java.lang.reflect.Field;
import java.lang.reflect.Method;
import java.lang.reflect.Modifier;
import java.nio.file.Files;
import java.nio.file.Path;
import java.util.ArrayList;
import java.util.Arrays;
import java.util.List;
import java.util.Set;
import java.util.TreeSet;
import java.util.regex.Matcher;
import java.util.regex.Pattern;

/** What of ../shared/LANGUAGE.md can be seen by a machine: the face, the sizes, words that may not stand. */
public final class LanguageTest {
    private static final Path SOURCE = Path.of("src/main/java/PileTricks.java");
    private static final Path DOCUMENT = Path.of("../shared/DOC.md");

    private final Check check = new Check();

    public static void main(String[] args) throws IOException {
        LanguageTest test = new LanguageTest();
        test.face(Files.readString(DOCUMENT));
        test.classes();
        test.words(Files.readString(SOURCE));
        test.lengths(Files.readAllLines(SOURCE));
        test.room();
        test.check.close("LanguageTest");
    }

    /** The methods of the face as the document writes them, without the names of what they take. */
    private static Set<String> promised(String document) {
        Set<String> face = new TreeSet<>();
        Matcher methods = Pattern.compile("(?m)^    public (\\w+ \\w+)\\((.*)\\)( throws .*)?;$").matcher(document);
        while (methods.find()) {
            String types = methods.group(2).replaceAll("(\\w+) \\w+", "$1").replace(" ", "");
            face.add(methods.group(1) + "(" + types + ")" + (methods.group(3) == null ? "" : methods.group(3)));
        }
        return face;
    }

    private static String written(Method method) {
        List<String> types = Arrays.stream(method.getParameterTypes()).map(Class::getSimpleName).toList();
        List<String> thrown = Arrays.stream(method.getExceptionTypes()).map(Class::getSimpleName).toList();
        return method.getReturnType().getSimpleName() + " " + method.getName() + "(" + String.join(",", types) + ")"
            + (thrown.isEmpty() ? "" : " throws " + String.join(", ", thrown));
    }

    private void face(String document) {
        Set<String> open = new TreeSet<>();
        Set<String> names = new TreeSet<>();
        for (Method method : PileTricks.class.getDeclaredMethods()) {
            if (!Modifier.isPrivate(method.getModifiers())) {
                open.add(written(method));
                names.add(method.getName());
                check.dueTrue(method + " is public", Modifier.isPublic(method.getModifiers()));
            }
        }
        check.due("methods of the face", 26, () -> promised(document).size());
        check.dueRow("the face", promised(document).toString(), open::toString);
        check.due("NONE", -1, () -> PileTricks.NONE);
        for (Class<?> each : all()) {
            for (Method method : each.getDeclaredMethods()) {
                boolean own = each == PileTricks.class && Modifier.isPublic(method.getModifiers());
                check.dueTrue(method + " bears a name of the face", own || !names.contains(method.getName()));
            }
        }
        for (Field field : PileTricks.class.getDeclaredFields()) {
            check.dueTrue(field + " is open", Modifier.isPrivate(field.getModifiers()) || field.getName().equals("NONE"));
        }
        check.due("constructors", 1, () -> PileTricks.class.getDeclaredConstructors().length);
        check.dueTrue("final", Modifier.isFinal(PileTricks.class.getModifiers()));
    }

    private static List<Class<?>> all() {
        List<Class<?>> all = new ArrayList<>(List.of(PileTricks.class));
        all.addAll(List.of(PileTricks.class.getDeclaredClasses()));
        return all;
    }

    private void classes() {
        check.dueTrue("at most twelve classes", all().size() <= 12);
        for (Class<?> each : all()) {
            int fields = 0;
            for (Field field : each.getDeclaredFields()) {
                boolean constant = Modifier.isStatic(field.getModifiers());
                fields += constant ? 0 : 1;
                check.dueTrue(field + " is static, not final", !constant || Modifier.isFinal(field.getModifiers()));
            }
            check.dueTrue(each + " has at most twenty fields", fields <= 20);
            check.dueTrue(each + " is inside and static", each == PileTricks.class
                || Modifier.isStatic(each.getModifiers()) && !Modifier.isPublic(each.getModifiers()));
            for (Method method : each.getDeclaredMethods()) {
                check.dueTrue(method + " has at most seven parameters", method.getParameterCount() <= 7);
            }
        }
    }

    private void words(String source) {
        String code = source.replaceAll("(?s)/\\*.*?\\*/", "").replaceAll("//[^\n]*", "").replaceAll("\"[^\"\n]*\"", "");
        for (String word : List.of("try", "catch", "finally", "synchronized", "assert", "double", "float", "protected",
                "package", "var", "record", "Object", "System\\.(?!arraycopy)", "Math\\.\\w+Exact", "hashCode", "toString",
                "Thread", "Random")) {
            check.dueTrue("'" + word + "' stands there", !Pattern.compile("\\b" + word + "\\b").matcher(code).find()
                && !(word.contains("\\.") && Pattern.compile(word).matcher(code).find()));
        }
        for (String sign : List.of("->", "::", "static {")) {
            check.dueTrue("'" + sign + "' stands there", !code.contains(sign));
        }
        Matcher imports = Pattern.compile("import ([\\w.]+);").matcher(code);
        while (imports.find()) {
            check.dueTrue("import of " + imports.group(1),
                Set.of("java.util.Arrays", "java.util.NoSuchElementException").contains(imports.group(1)));
        }
        Matcher thrown = Pattern.compile("throw new (\\w+)").matcher(code);
        while (thrown.find()) {
            check.dueTrue("throw of " + thrown.group(1),
                Set.of("IllegalArgumentException", "NoSuchElementException").contains(thrown.group(1)));
        }
    }

    /** Methods and constructors stand at one or two levels in, and end at the bracket at that level. */
    private void lengths(List<String> lines) {
        for (int i = 0; i < lines.size(); i++) {
            String line = lines.get(i);
            if (line.matches("( {4}| {8})(public|private)[^=;]*\\) .*\\{") && !line.contains(" class ")) {
                String close = line.substring(0, line.indexOf('p')) + "}";
                int end = i;
                while (!lines.get(end).equals(close)) {
                    end++;
                }
                check.dueTrue("at most sixty lines: " + line.trim(), end - i + 1 <= 60);
            }
        }
    }

    /** No call makes objects: only a new object and an exception take room. */
    private void room() {
        com.sun.management.ThreadMXBean threads = (com.sun.management.ThreadMXBean) ManagementFactory.getThreadMXBean();
        // An object is used for at most 512 calls, so there are many, all made ahead of the measuring.
        PileTricks[] all = new PileTricks[100];
        for (int i = 0; i < all.length; i++) {
            all[i] = Check.told("cards 60;heaps 4;lies 2;wish 7;deal fro over at (named+1)*size;deal run under at 2;");
        }
        calls(all[0]);
        long before = threads.getCurrentThreadAllocatedBytes();
        for (PileTricks x : all) {
            calls(x);
        }
        long used = threads.getCurrentThreadAllocatedBytes() - before;
        check.dueTrue("a hundred rounds of calls took " + used + " bytes", used < 100 * 100);
    }

    private static long calls(PileTricks x) {
        long sum = x.feed(0x6465616c, 0x2066726f, 0x206f7665, 0x72206174, 0x20313b20) + x.trick(19) + x.fault();
        sum += x.count(6) + x.told(0, 1, 2) + x.goes(3, 1, 1) + x.end(3, 60) + x.sure(60) + x.soonest();
        sum += x.wished(3, 5) + x.fewest(3) + x.always(1, 1, 1, 1) + x.two(3, 4, 60) + x.worst(4) + x.card(5);
        sum += x.answer(0, 1, 1, 1) + x.lies(7) + x.fits() + x.between(0) + x.evenings(5, 60, 60) + x.weighings(12, false);
        x.see();
        x.image();
        return sum + x.undo() + (x.restore() ? 1 : 0);
    }
}
