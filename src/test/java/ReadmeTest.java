import java.io.IOException;
import java.nio.file.Files;
import java.nio.file.Path;
import java.util.List;
import java.util.regex.Matcher;
import java.util.regex.Pattern;

/** README.md: its example is read from there and played; each call must answer what stands behind it. */
public final class ReadmeTest {
    private static final Pattern LINE = Pattern.compile("(rally\\..*\\)); *// (.*)");
    /** The innermost call of a line, whose arguments hold no other one. */
    private static final Pattern CALL = Pattern.compile("rally\\.(\\w+)\\(([^()]*)\\)");
    private static final Pattern ANSWER = Pattern.compile("-?\\d+|\\w+Exception");
    private static final List<String> METHODS = List.of("item", "open", "starts", "due", "stamp", "delay",
            "finish", "held", "award", "time", "allocate", "seen", "retire", "car", "totalAnew", "ranked",
            "close", "points", "table");

    public static void main(String[] args) throws IOException {
        Check check = new Check();
        check.promise("README.md");
        String text = Files.readString(Path.of("README.md"));
        RallyCard rally = new RallyCard();
        for (String line : text.split("```")[1].split("\n")) {
            if (line.startsWith("rally.")) {
                play(check, rally, line);
            }
        }
        for (String method : METHODS) {
            check.same(method + " is shown", text.contains("rally." + method + "(") ? 1 : 0, 1);
        }
        check.same("how to run the tests is told", text.contains("\n    .ci/run\n") ? 1 : 0, 1);
        check.end();
    }

    private static void play(Check check, RallyCard rally, String line) {
        Matcher parts = LINE.matcher(line);
        check.same(line + " can be read", parts.matches() ? 1 : 0, 1);
        if (!parts.matches()) {
            return;
        }
        String got = answer(rally, parts.group(1));
        Matcher due = ANSWER.matcher(parts.group(2));
        // finish and retire answer nothing, which a Call tells as 0
        check.same(line + " answers", got, due.lookingAt() ? due.group() : "0");
    }

    private static String answer(RallyCard rally, String calls) {
        String rest = calls;
        Matcher call = CALL.matcher(rest);
        while (call.find()) {
            String answer = new Call(call.group(1), arguments(call.group(2))).askedOf(rally);
            rest = rest.substring(0, call.start()) + answer + rest.substring(call.end());
            call = CALL.matcher(rest);
        }
        return rest;
    }

    private static int[] arguments(String text) {
        String[] words = text.isEmpty() ? new String[0] : text.split(", ");
        int[] values = new int[words.length];
        for (int n = 0; n < words.length; n++) {
            values[n] = valueOf(words[n]);
        }
        return values;
    }

    private static int valueOf(String word) {
        switch (word) {
            case "true": return 1;
            case "false": return 0;
            case "RallyCard.LEG": return RallyCard.LEG;
            case "RallyCard.CONTROL": return RallyCard.CONTROL;
            case "RallyCard.STAGE": return RallyCard.STAGE;
            case "RallyCard.NUMBERS": return RallyCard.NUMBERS;
            case "RallyCard.RANK": return RallyCard.RANK;
            case "RallyCard.REVERSED": return RallyCard.REVERSED;
            case "RallyCard.NONE": return RallyCard.NONE;
            default: return Integer.parseInt(word);
        }
    }
}
