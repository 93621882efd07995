import java.lang.reflect.Method;
import java.lang.reflect.Modifier;
import java.nio.file.Files;
import java.nio.file.Path;
import java.util.List;
import java.util.Set;
import java.util.TreeSet;
import java.util.regex.Matcher;
import java.util.regex.Pattern;

/** README.md's examples, taken as one run of calls on one object, answer as it says. */
public final class ReadmeTest {
    private static final Checks CHECKS = new Checks("ReadmeTest");
    private static final Pattern TEXT = Pattern.compile("String text = \"([^\"]*)\";");
    /** A call with the answer that README.md tells behind it. */
    private static final Pattern TOLD = Pattern.compile("x\\.(\\w+)\\(([-\\d, ]*)\\);\\s*// (-?\\d+)\\b.*");

    public static void main(String[] args) throws Exception {
        Path page = Path.of(args.length > 0 ? args[0] : "README.md");
        everyCallIsAmong(examples(Files.readAllLines(page)));
        CHECKS.holds("how to run the tests", Files.readString(page).contains("\n    .ci/run\n"));
        CHECKS.close();
    }

    /** The names of the calls that are shown with an answer. */
    private static Set<String> examples(List<String> lines) {
        Set<String> shown = new TreeSet<>();
        DebtFerry x = new DebtFerry();
        int length = 0;
        for (String line : lines) {
            Matcher text = TEXT.matcher(line);
            if (text.matches()) {
                length = text.group(1).length();
                // The page puts the codes in a loop behind this line.
                Checks.write(x, 0, 0, text.group(1));
            }
            Matcher told = TOLD.matcher(line.replace("text.length()", Integer.toString(length)));
            if (told.matches()) {
                long want = Long.parseLong(told.group(3));
                shown.add(told.group(1));
                CHECKS.answers(line, want, x, told.group(1), numbers(told.group(2)));
            }
        }
        return shown;
    }

    private static int[] numbers(String list) {
        String[] parts = list.isBlank() ? new String[0] : list.split(", *");
        int[] all = new int[parts.length];
        for (int k = 0; k < all.length; k++) {
            all[k] = Integer.parseInt(parts[k].trim());
        }
        return all;
    }

    private static void everyCallIsAmong(Set<String> shown) {
        for (Method m : DebtFerry.class.getDeclaredMethods()) {
            if (Modifier.isPublic(m.getModifiers())) {
                CHECKS.holds("README.md shows " + m.getName(), shown.contains(m.getName()));
            }
        }
    }
}
