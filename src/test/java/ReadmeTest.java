import java.io.IOException;
import java.lang.reflect.InvocationTargetException;
import java.lang.reflect.Method;
import java.nio.file.Files;
import java.nio.file.Path;
import java.util.ArrayList;
import java.util.LinkedHashMap;
import java.util.List;
import java.util.Map;
import java.util.regex.Matcher;
import java.util.regex.Pattern;

// README.md says of the calls what the document says, and its examples answer as it tells.
public final class ReadmeTest {
    // a call as README and document are to agree on it
    record Said(List<String> errors, boolean none, boolean undoable) { }

    static final Pattern CODE = Pattern.compile("NO_SUCH|BAD_VALUE|NOT_POSSIBLE|LIMIT|BAD_TEXT");
    static final Pattern PROMISE = Pattern.compile("`((?:int|long) \\w+\\([^)]*\\))`: (.*)");
    static final Pattern ROW = Pattern.compile("\\| `((?:int|long) \\w+\\([^)]*\\))` \\|([^|]*)\\|([^|]*)\\|([^|]*)\\|");
    static final Pattern CONSTANT = Pattern.compile("\\| `(\\w+)` \\| (-\\d) \\| ([^|]*) \\|");
    static final Pattern EXAMPLE = Pattern.compile(" {4}book\\.(\\w+)\\(([^)]*)\\); +// (-?\\d+)(: .*)?");

    static int wrong = 0;

    static void due(String what, Object got, Object want) {
        if (!got.equals(want)) {
            wrong++;
            System.out.println(what + ": " + got + ", due is " + want);
        }
    }

    static List<String> codes(String words) {
        List<String> codes = new ArrayList<>();
        Matcher m = CODE.matcher(words);
        while (m.find()) {
            codes.add(m.group());
        }
        return codes;
    }

    static Map<String, Said> ofDocument() throws IOException {
        Map<String, Said> said = new LinkedHashMap<>();
        for (String part : Files.readString(Path.of("../shared/DOC.md")).split("(?m)^## Promise ")) {
            Matcher m = PROMISE.matcher(part);
            if (m.find()) {
                int from = part.indexOf("\nReturns ");
                String returns = from < 0 ? m.group(2).substring(m.group(2).indexOf("Returns ")) : part.substring(from);
                String line = returns.strip().split("\n")[0];
                said.put(m.group(1), new Said(codes(line), line.contains("NONE"), m.group(2).contains("Undoable.")));
            }
        }
        return said;
    }

    static Map<String, Said> ofReadme(String readme) {
        Map<String, Said> said = new LinkedHashMap<>();
        Matcher m = ROW.matcher(readme);
        while (m.find()) {
            said.put(m.group(1), new Said(codes(m.group(3)), m.group(2).contains("`NONE`"), m.group(4).contains("yes")));
        }
        return said;
    }

    static void calls(String readme) throws IOException {
        Map<String, Said> document = ofDocument();
        due("the number of calls of the document", document.size(), 30);
        due("the calls of README", new ArrayList<>(ofReadme(readme).keySet()), new ArrayList<>(document.keySet()));
        for (Map.Entry<String, Said> row : ofReadme(readme).entrySet()) {
            due("README of " + row.getKey(), row.getValue(), document.getOrDefault(row.getKey(), row.getValue()));
        }
    }

    static void constants(String readme) throws IOException, ReflectiveOperationException {
        String document = Files.readString(Path.of("../shared/DOC.md"));
        int found = 0;
        Matcher m = CONSTANT.matcher(readme);
        while (m.find()) {
            found++;
            due(m.group(1), ClientMoneyBook.class.getField(m.group(1)).getInt(null), Integer.parseInt(m.group(2)));
            String meaning = m.group(3).substring(0, 1).toUpperCase() + m.group(3).substring(1) + ".";
            due("the document says of " + m.group(1) + " \"" + meaning + "\"",
                document.contains("`" + m.group(1) + " = " + m.group(2) + "`: " + meaning), true);
        }
        due("the number of error codes of README", found, 5);
    }

    static Object[] arguments(String words) {
        String[] parts = words.isEmpty() ? new String[0] : words.split(", ");
        Object[] arguments = new Object[parts.length];
        for (int i = 0; i < parts.length; i++) {
            arguments[i] = parts[i].startsWith("'") ? (int) parts[i].charAt(1) : Integer.parseInt(parts[i]);
        }
        return arguments;
    }

    static void examples(String readme) throws IllegalAccessException, InvocationTargetException {
        ClientMoneyBook book = new ClientMoneyBook();
        int found = 0;
        for (String line : readme.split("\n")) {
            Matcher m = EXAMPLE.matcher(line);
            if (line.startsWith("    book.") && !m.matches()) {
                due("an example that cannot be read", line, "");
            }
            for (Method method : ClientMoneyBook.class.getMethods()) {
                if (m.matches() && method.getName().equals(m.group(1))) {
                    found++;
                    Number got = (Number) method.invoke(book, arguments(m.group(2)));
                    due(line.strip(), got.longValue(), Long.parseLong(m.group(3)));
                }
            }
        }
        due("there are examples", found > 10, true);
    }

    public static void main(String[] args) throws Exception {
        String readme = Files.readString(Path.of("README.md"));
        calls(readme);
        constants(readme);
        examples(readme);
        for (String path : new String[] {"src/main/java/ClientMoneyBook.java", "../shared/DOC.md", "NOTES.md",
            "../shared/LANGUAGE.md", ".ci/run", "src/test/java/PromiseTest.java"}) {
            due("README names " + path, readme.contains(path), true);
            due("there is " + path, Files.exists(Path.of(path)), true);
        }
        System.out.println(wrong == 0 ? "README.md is as due" : wrong + " complaints");
        if (wrong != 0) {
            System.exit(1);
        }
    }
}
