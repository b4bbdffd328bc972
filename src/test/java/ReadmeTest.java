import java.io.IOException;
import java.lang.reflect.Method;
import java.nio.file.Files;
import java.nio.file.Path;
import java.util.ArrayList;
import java.util.List;
import java.util.TreeSet;
import java.util.regex.Matcher;
import java.util.regex.Pattern;

/** The calls that README.md shows, one after another on one object, with the answers it tells. */
public final class ReadmeTest {
    public static void main(String[] args) throws IOException, ReflectiveOperationException {
        Matcher m = Pattern.compile("(?m)^x\\.(\\w+)\\((.*?)\\); +// (-?\\d+)").matcher(Files.readString(Path.of("README.md")));
        PagesByLevels x = new PagesByLevels();
        TreeSet<String> shown = new TreeSet<>();
        while (m.find()) {
            shown.add(m.group(1));
            Due.due(m.group(), answer(x, m.group(1), m.group(2)), Long.parseLong(m.group(3)));
        }
        Due.isTrue("most calls are shown: " + shown, shown.size() > 20);
        Due.end("ReadmeTest");
    }

    private static int answer(PagesByLevels x, String name, String given) throws ReflectiveOperationException {
        for (Method m : PagesByLevels.class.getMethods()) {
            if (m.getName().equals(name)) {
                List<Object> boxed = new ArrayList<>();
                for (String each : given.isEmpty() ? new String[0] : given.split(", ")) {
                    long v = Long.decode(each.replace("L", ""));
                    boolean narrow = m.getParameterTypes()[boxed.size()] == int.class;
                    boxed.add(narrow ? (Object) (int) v : (Object) v);
                }
                return (Integer) m.invoke(x, boxed.toArray());
            }
        }
        throw new IllegalStateException("no call " + name);
    }
}
