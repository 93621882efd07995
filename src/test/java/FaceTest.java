import java.lang.reflect.Constructor;
import java.lang.reflect.Field;
import java.lang.reflect.Method;
import java.lang.reflect.Modifier;
import java.nio.file.Files;
import java.nio.file.Path;
import java.util.Set;
import java.util.TreeSet;
import java.util.regex.Matcher;
import java.util.regex.Pattern;

/** The public face, and the rules of LANGUAGE.md that can be seen from outside or by words. */
public final class FaceTest {
    private static final Checks CHECKS = new Checks("FaceTest");

    private static final String[] FACE = {
        "int river(int,int,int,int)", "int ofPerson(int,int)", "int owes(int,int)", "int lend(int,int,int)",
        "int count(int)", "int build(int)", "int debt(int,int)", "int pullers(int)", "int fair(int)",
        "int loads(int,int,int,int,int)", "int cross(int)", "int loan(int,int,int)", "int forgave(int)",
        "int reading(int,int)", "int back(int)", "int notes(int,int)", "int kinds(int)", "int often()",
        "long odds(int,int,int)", "int sheet(int,int,int)", "int lose(int)", "int put(int,int,int)",
        "long cell(int,int,int)", "int copy(int,int,int,int,int)", "int tell(int)", "int hail(int)",
        "int as(int,int)", "int trace()", "int fault()", "int many(int)"
    };

    public static void main(String[] args) throws Exception {
        constants();
        methods();
        members();
        words(Path.of(args.length > 0 ? args[0] : "src/main/java/DebtFerry.java"));
        CHECKS.close();
    }

    private static void constants() {
        CHECKS.due("UNKNOWN", -1, DebtFerry.UNKNOWN);
        CHECKS.due("OUTSIDE", -2, DebtFerry.OUTSIDE);
        CHECKS.due("STATE", -3, DebtFerry.STATE);
        CHECKS.due("FULL", -4, DebtFerry.FULL);
        CHECKS.due("NONE", -9, DebtFerry.NONE);
        CHECKS.due("LOST", Long.MIN_VALUE, DebtFerry.LOST);
    }

    private static void methods() {
        Set<String> due = new TreeSet<>(Set.of(FACE));
        Set<String> found = new TreeSet<>();
        Set<String> hidden = new TreeSet<>();
        for (Method m : DebtFerry.class.getDeclaredMethods()) {
            if (Modifier.isPrivate(m.getModifiers())) {
                hidden.add(m.getName());
                continue;
            }
            CHECKS.holds(m.getName() + " is public and of objects",
                Modifier.isPublic(m.getModifiers()) && !Modifier.isStatic(m.getModifiers()));
            found.add(signature(m));
        }
        CHECKS.holds("methods " + found, due.equals(found));
        for (Class<?> c : DebtFerry.class.getDeclaredClasses()) {
            for (Method m : c.getDeclaredMethods()) {
                hidden.add(m.getName());
            }
        }
        for (String s : found) {
            String name = s.substring(s.indexOf(' ') + 1, s.indexOf('('));
            CHECKS.holds("rule 1: no private method, nor one of a class inside, is named " + name, !hidden.contains(name));
        }
    }

    private static String signature(Method m) {
        StringBuilder s = new StringBuilder(m.getReturnType().getName()).append(' ').append(m.getName()).append('(');
        String comma = "";
        for (Class<?> c : m.getParameterTypes()) {
            s.append(comma).append(c.getName());
            comma = ",";
        }
        return s.append(')').toString();
    }

    private static void members() {
        CHECKS.holds("final", Modifier.isFinal(DebtFerry.class.getModifiers()));
        CHECKS.holds("public", Modifier.isPublic(DebtFerry.class.getModifiers()));
        Constructor<?>[] all = DebtFerry.class.getDeclaredConstructors();
        CHECKS.due("constructors", 1, all.length);
        CHECKS.holds("public constructor", Modifier.isPublic(all[0].getModifiers()));
        CHECKS.due("its parameters", 0, all[0].getParameterCount());
        Set<String> shown = new TreeSet<>();
        for (Field f : DebtFerry.class.getDeclaredFields()) {
            if (!Modifier.isPrivate(f.getModifiers())) {
                shown.add(f.getName());
            }
        }
        CHECKS.holds("fields " + shown, shown.equals(Set.of("UNKNOWN", "OUTSIDE", "STATE", "FULL", "NONE", "LOST")));
        for (Class<?> c : DebtFerry.class.getDeclaredClasses()) {
            CHECKS.holds(c.getName() + " is static", Modifier.isStatic(c.getModifiers()));
            CHECKS.holds(c.getName() + " is hidden", !Modifier.isPublic(c.getModifiers()) && !Modifier.isProtected(c.getModifiers()));
            sizes(c);
        }
        sizes(DebtFerry.class);
        CHECKS.holds("rule 11: at most some twelve classes", DebtFerry.class.getDeclaredClasses().length < 12);
    }

    /** Rules 5 and 11, of one class. */
    private static void sizes(Class<?> c) {
        int own = 0;
        for (Field f : c.getDeclaredFields()) {
            boolean isStatic = Modifier.isStatic(f.getModifiers());
            own += isStatic ? 0 : 1;
            CHECKS.holds("rule 5: " + f + " is final, if static", !isStatic || Modifier.isFinal(f.getModifiers()));
        }
        CHECKS.holds("rule 11: at most some twenty fields in " + c.getName(), own <= 20);
        for (Method m : c.getDeclaredMethods()) {
            CHECKS.holds("rule 11: at most seven parameters of " + m, m.getParameterCount() <= 7);
        }
    }

    private static void words(Path source) throws Exception {
        String code = Files.readString(source).replaceAll("(?s)/\\*.*?\\*/", " ").replaceAll("//[^\n]*", " ");
        String[] barred = {"throw", "throws", "try", "catch", "synchronized", "assert", "package", "import", "yield"};
        for (String word : barred) {
            CHECKS.holds("no word " + word, !code.matches("(?s).*\\b" + word + "\\b.*"));
        }
        CHECKS.holds("no lambda, no method reference", !code.contains("->") && !code.contains("::"));
        library(code);
        newOnes(code);
    }

    /** Rule 4: of the library the class uses these alone, all of which stand in the rule. */
    private static void library(String code) {
        Set<String> used = new TreeSet<>();
        Matcher of = Pattern.compile("\\b([A-Z]\\w*)\\.([A-Za-z]\\w*)").matcher(code);
        while (of.find()) {
            used.add(of.group());
        }
        used.removeAll(Set.of("Text.firstFault", "Text.kindOf"));
        CHECKS.holds("rule 4: the library is used by " + used,
            used.equals(Set.of("Integer.bitCount", "Long.MIN_VALUE", "Math.min", "System.arraycopy")));
    }

    /** Rule 12, the plainest way: nothing is made but with the object itself. */
    private static void newOnes(String code) {
        int from = code.indexOf("public DebtFerry()");
        int to = code.indexOf("public int river(");
        CHECKS.holds("the constructor stands ahead of the calls", from >= 0 && from < to);
        String calls = code.substring(0, Math.max(from, 0)) + code.substring(Math.max(to, 0));
        String rest = calls.replaceAll("final [\\w\\[\\]]+ \\w+ = new [^;]*;", " ");
        CHECKS.holds("rule 12: no call makes an object", !rest.matches("(?s).*\\b(new|clone|copyOf|append)\\b.*"));
    }
}
