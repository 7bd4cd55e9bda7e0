import java.io.IOException;
import java.lang.reflect.InvocationTargetException;
import java.lang.reflect.Method;
import java.lang.reflect.Modifier;
import java.nio.file.Files;
import java.nio.file.Path;
import java.util.ArrayList;
import java.util.List;
import java.util.regex.Matcher;
import java.util.regex.Pattern;

/** Makes the calls that README.md shows and compares their answers with those that stand behind them. */
public final class ReadmeTest {
    private static final Pattern CALL = Pattern.compile("noon\\.(\\w+)\\(([^)]*)\\); +// (.+)");
    private static final Pattern WRITE = Pattern.compile("write\\(noon, \"([^\"]*)\"\\);");
    private static final Pattern OUTPUT = Pattern.compile("output\\(noon\\); +// \"([^\"]*)\"");
    private static final Check check = new Check("ReadmeTest");

    private NoonCry noon = new NoonCry();
    private int printed;
    private int done;

    public static void main(String[] args) throws IOException {
        String page = Files.readString(Path.of("README.md"));
        ReadmeTest test = new ReadmeTest();
        for (String block : javaBlocks(page)) {
            if (block.startsWith("static ")) {
                standsInCheck(block);
            } else {
                block.lines().forEach(test::carryOut);
            }
        }
        check.isTrue("README.md shows calls", test.done > 50);
        everyCallIsNamed(page);
        check.finish();
    }

    private static List<String> javaBlocks(String page) {
        List<String> blocks = new ArrayList<>();
        Matcher matcher = Pattern.compile("```java\n(.*?)```", Pattern.DOTALL).matcher(page);
        while (matcher.find()) {
            blocks.add(matcher.group(1));
        }
        return blocks;
    }

    /** The code that a reader may copy is the code that the tests use. */
    private static void standsInCheck(String code) throws IOException {
        String source = Files.readString(Path.of("src/test/java/Check.java"));
        check.isTrue("Check.java has what README.md shows", withoutIndents(source).contains(withoutIndents(code)));
    }

    private static String withoutIndents(String code) {
        return Pattern.compile("^ +", Pattern.MULTILINE).matcher(code).replaceAll("");
    }

    private static void everyCallIsNamed(String page) {
        for (Method method : NoonCry.class.getDeclaredMethods()) {
            if (Modifier.isPublic(method.getModifiers())) {
                check.isTrue("README.md names " + method.getName(), page.contains("`" + method.getName() + "`"));
            }
        }
    }

    private void carryOut(String line) {
        Matcher call = CALL.matcher(line);
        Matcher write = WRITE.matcher(line);
        Matcher output = OUTPUT.matcher(line);
        if (line.equals("NoonCry noon = new NoonCry();")) {
            noon = new NoonCry();
        } else if (call.matches()) {
            done++;
            check.sameText(line, answer(call.group(1), call.group(2)), call.group(3));
        } else if (write.matches()) {
            Check.write(noon, write.group(1));
        } else if (output.matches()) {
            check.sameText(line, Check.output(noon, printed), output.group(1));
        } else {
            check.isTrue("a line that can be carried out: " + line, false);
        }
    }

    private String answer(String name, String numbers) {
        Object[] given = Pattern.compile(", ").splitAsStream(numbers).filter(number -> !number.isEmpty())
            .map(Integer::decode).toArray();
        for (Method method : NoonCry.class.getDeclaredMethods()) {
            if (method.getName().equals(name) && Modifier.isPublic(method.getModifiers())) {
                return answer(method, given);
            }
        }
        return "no such call";
    }

    private String answer(Method method, Object[] given) {
        try {
            Object answer = method.invoke(noon, given);
            printed = method.getName().equals("printSide") ? (Integer) answer : printed;
            return String.valueOf(answer);
        } catch (InvocationTargetException e) {
            return "throws " + e.getCause().getClass().getSimpleName();
        } catch (IllegalAccessException e) {
            throw new AssertionError(e);
        }
    }
}
