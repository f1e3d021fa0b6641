import java.io.IOException;
import java.io.UncheckedIOException;
import java.nio.file.Files;
import java.nio.file.Path;
import java.util.ArrayList;
import java.util.List;
import java.util.Map;
import java.util.TreeMap;
import java.util.regex.Matcher;
import java.util.regex.Pattern;

/** The public face as the document writes it: its calls ('int feed(int c)') and its constants. */
record Face(List<String> calls, Map<String, Integer> constants) {
    private static final Pattern CONSTANTS = Pattern.compile("public static final int ([^;]*);");
    private static final Pattern CALL = Pattern.compile("public ((?:int|long) \\w+\\([^)]*\\));");

    static Face ofDocument() {
        String face = written();
        List<String> calls = new ArrayList<>();
        Matcher call = CALL.matcher(face);
        while (call.find()) {
            calls.add(call.group(1));
        }
        Map<String, Integer> constants = new TreeMap<>();
        Matcher told = CONSTANTS.matcher(face);
        while (told.find()) {
            for (String constant : told.group(1).split(", ")) {
                String[] parts = constant.split(" = ");
                constants.put(parts[0], Integer.valueOf(parts[1]));
            }
        }
        return new Face(calls, constants);
    }

    private static String written() {
        try {
            String doc = Files.readString(Path.of("../shared/DOC.md"));
            Matcher m = Pattern.compile("(?s)## The public face(.*?)\n## ").matcher(doc);
            return m.find() ? m.group(1) : "";
        } catch (IOException e) {
            throw new UncheckedIOException(e);
        }
    }
}
