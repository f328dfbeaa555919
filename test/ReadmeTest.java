import java.io.IOException;
import java.lang.reflect.Field;
import java.lang.reflect.Method;
import java.lang.reflect.Modifier;
import java.nio.file.Files;
import java.nio.file.Path;
import java.util.HashMap;
import java.util.Map;
import java.util.regex.Matcher;
import java.util.regex.Pattern;

/** README.md says how the class is used: its example answers what it says, and it names all of the public face. */
public final class ReadmeTest {
    private static final Pattern EXAMPLE = Pattern.compile("(?s)```java\n(.*?)```");
    private static final Pattern LINE =
            Pattern.compile("(?:int (\\w+) = )?auction\\.(\\w+)\\((.*)\\); *// (-?[0-9]+)(?::.*)?");

    public static void main(String[] args) throws IOException {
        String readme = Files.readString(Path.of("README.md"));
        Matcher example = EXAMPLE.matcher(readme);
        boolean hasExample = example.find();
        Script.due("README.md has an example", hasExample ? 1 : 0, 1);
        if (hasExample) {
            runExample(example.group(1));
        }
        namesTheFace(readme);
        Script.end("ReadmeTest");
    }

    private static void runExample(String example) {
        PostalAuction auction = new PostalAuction();
        Map<String, String> values = new HashMap<>();
        for (String line : example.split("\n")) {
            if (line.equals("PostalAuction auction = new PostalAuction();")) {
                continue;
            }
            Matcher call = LINE.matcher(line);
            boolean isCall = call.matches();
            Script.due("README.md has a call and its answer in: " + line, isCall ? 1 : 0, 1);
            if (isCall) {
                StringBuilder words = new StringBuilder(call.group(2));
                for (String argument : call.group(3).split(", ")) {
                    words.append(' ').append(values.getOrDefault(argument, argument));
                }
                Script.due("README.md: " + line, Script.parse(words.toString()).on(auction), Long.parseLong(call.group(4)));
                values.put(call.group(1), call.group(4));
            }
        }
    }

    private static void namesTheFace(String readme) {
        for (Method method : PostalAuction.class.getDeclaredMethods()) {
            if (Modifier.isPublic(method.getModifiers())) {
                mustName(readme, method.getName());
            }
        }
        for (Field field : PostalAuction.class.getDeclaredFields()) {
            if (Modifier.isPublic(field.getModifiers())) {
                mustName(readme, field.getName());
            }
        }
    }

    private static void mustName(String readme, String name) {
        Script.due("README.md names " + name, readme.contains("`" + name + "`") ? 1 : 0, 1);
    }
}
