import java.io.IOException;
import java.nio.file.Files;
import java.nio.file.Path;
import java.util.regex.Matcher;
import java.util.regex.Pattern;

/** README.md's example: each call of it is made, and answers what its comment begins with. */
public final class ReadmeTest {
    private static final Check CHECK = new Check("ReadmeTest");
    private static final Pattern CALL =
            Pattern.compile("x\\.(\\w+)\\((?:(\\w+)(?:, (\\w+))?)?\\);(?:\\s+// (-?\\w+):.*)?");

    public static void main(String[] args) throws IOException {
        String readme = Files.readString(Path.of("README.md"));
        int begin = readme.indexOf("```java\n") + "```java\n".length();
        String[] lines = readme.substring(begin, readme.indexOf("```", begin)).split("\n");
        CHECK.due("the first line", lines[0], "OpcodeFrames x = new OpcodeFrames();");
        OpcodeFrames x = new OpcodeFrames();
        for (int i = 1; i < lines.length; i++) {
            Matcher call = CALL.matcher(lines[i]);
            CHECK.due(lines[i] + " is a call", call.matches(), true);
            CHECK.due(lines[i], answer(x, call), call.group(4) == null ? "" : call.group(4));
        }
        CHECK.end();
    }

    private static String answer(OpcodeFrames x, Matcher call) {
        int a = call.group(2) == null ? 0 : Integer.decode(call.group(2));
        int b = call.group(3) == null ? 0 : Integer.decode(call.group(3));
        switch (call.group(1)) {
            case "feed": return "" + x.feed(a, b);
            case "fault": return "" + x.fault();
            case "run": return "" + x.run(a);
            case "about": return "" + x.about(a);
            case "stack": return "" + x.stack(a, b);
            case "result": return "" + x.result(a);
            case "again": return "" + x.again();
            case "read":
                x.read();
                return "";
            default: return "no call of the face";
        }
    }
}
