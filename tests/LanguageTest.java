import java.io.IOException;
import java.lang.reflect.Constructor;
import java.lang.reflect.Field;
import java.lang.reflect.Method;
import java.lang.reflect.Modifier;
import java.nio.file.Files;
import java.nio.file.Path;
import java.util.ArrayList;
import java.util.Arrays;
import java.util.List;
import java.util.TreeSet;
import java.util.regex.Pattern;

/** The face, as the document tells it, and those of the language's rules that a plain look can hold. */
public final class LanguageTest {
    private static final Due DUE = new Due();
    private static final String FACE = "days1 home3 key2 sell1 in2 crew3 ofHome2 kind3 fault4 promise2 said2 look2 voids1"
        + " state2 ofFault2 source2 damage1 rule2 joined4 chance3 cause3 rivals3 read2 gauge2 pace2 sinking2 men2 job1"
        + " plan1 planned1 feed2 text2 inForce3 judge2 free1 take1 doubles3 lots1 draw1 ofCrew2 bounds3 worst2 weight2"
        + " count1";

    public static void main(String[] args) throws IOException {
        face();
        inside();
        words(Files.readString(Path.of("src/main/java/SnagBook.java")));
        DUE.end("LanguageTest");
    }

    private static void holds(String what, boolean so) {
        DUE.is(what, so ? 1 : 0, 1);
    }

    private static void face() {
        TreeSet<String> found = new TreeSet<>();
        for (Method m : SnagBook.class.getDeclaredMethods()) {
            if (!Modifier.isPrivate(m.getModifiers())) {
                found.add(m.getName() + m.getParameterCount());
                holds(m.getName() + " is public and plain", m.getModifiers() == Modifier.PUBLIC);
                holds(m.getName() + " answers an int", m.getReturnType() == int.class);
                for (Class<?> type : m.getParameterTypes()) {
                    holds(m.getName() + " takes ints", type == int.class);
                }
            }
        }
        TreeSet<String> due = new TreeSet<>(Arrays.asList(FACE.split(" ")));
        holds("the methods are " + due + ", not " + found, found.equals(due));
        int constants = 0;
        for (Field f : SnagBook.class.getDeclaredFields()) {
            if (!Modifier.isPrivate(f.getModifiers())) {
                constants++;
                holds(f.getName() + " is a public constant",
                    f.getModifiers() == (Modifier.PUBLIC | Modifier.STATIC | Modifier.FINAL) && f.getType() == int.class);
            }
        }
        DUE.is("constants", constants, 6);
        Constructor<?>[] made = SnagBook.class.getDeclaredConstructors();
        holds("one constructor", made.length == 1 && made[0].getParameterCount() == 0
            && made[0].getModifiers() == Modifier.PUBLIC);
        holds("a public final class", SnagBook.class.getModifiers() == (Modifier.PUBLIC | Modifier.FINAL));
    }

    private static void inside() {
        TreeSet<String> face = new TreeSet<>();
        for (String name : FACE.split(" ")) {
            face.add(name.substring(0, name.length() - 1));
        }
        List<Class<?>> all = new ArrayList<>(Arrays.asList(SnagBook.class.getDeclaredClasses()));
        all.add(SnagBook.class);
        holds("some twelve classes", all.size() <= 12);
        for (Class<?> c : all) {
            int fields = 0;
            for (Field f : c.getDeclaredFields()) {
                fields += Modifier.isStatic(f.getModifiers()) ? 0 : 1;
                holds(f + " is no state of all", !Modifier.isStatic(f.getModifiers()) || Modifier.isFinal(f.getModifiers()));
            }
            holds(c + " has some twenty fields", fields <= 20);
            for (Method m : c.getDeclaredMethods()) {
                holds(m + " has at most seven parameters", m.getParameterCount() <= 7);
                boolean own = !Modifier.isPublic(m.getModifiers());
                holds(m + " bears no name of the face", !own || !face.contains(m.getName()));
            }
        }
    }

    private static void words(String source) {
        String code = source.replaceAll("(?s)/\\*.*?\\*/", "").replaceAll("//[^\n]*", "").replaceAll("\"[^\"\n]*\"", "\"\"");
        String[] never = {"throw", "throws", "try", "catch", "synchronized", "assert", "instanceof", "var", "double",
            "float", "Object", "System", "Exception", "record"};
        for (String word : never) {
            holds("no " + word, !Pattern.compile("\\b" + word + "\\b").matcher(code).find());
        }
        holds("no lambda", !code.contains("->") && !code.contains("::"));
        holds("one import", code.split("\\bimport\\b", -1).length == 2 && code.contains("import java.util.Arrays;"));
        holds("plain signs", source.chars().allMatch(c -> c < 128));
        shortMethods(source.split("\n"));
    }

    private static void shortMethods(String[] lines) {
        int from = 0;
        for (int i = 0; i < lines.length; i++) {
            String line = lines[i];
            boolean head = line.matches(" {4}( {4})?\\S.*\\) \\{") && !line.trim().matches("(if|for|while|switch|\\}).*");
            from = head ? i : from;
            boolean end = line.matches(" {4}( {4})?\\}");
            holds("the method at line " + (from + 1) + " is short", !end || from == 0 || i - from <= 60);
            from = end ? 0 : from;
        }
    }
}
