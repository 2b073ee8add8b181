import java.util.LinkedHashMap;
import java.util.Map;
import java.util.regex.Matcher;
import java.util.regex.Pattern;

/** The calls that the document's section "The public face" tells, read from the document itself. */
final class Face {
    private static final Pattern CALL =
        Pattern.compile("public (int|boolean|void) (\\w+)\\(([^)]*)\\)( throws \\w+)?;");

    final String type;
    final String name;
    final String[] parameters;
    final String thrown;

    private Face(Matcher call) {
        type = call.group(1);
        name = call.group(2);
        parameters = call.group(3).isEmpty() ? new String[0] : call.group(3).replace("int ", "").split(", ");
        thrown = call.group(4) == null ? "" : call.group(4).replace(" throws ", "");
    }

    static Map<String, Face> ofTheDocument() {
        Map<String, Face> found = new LinkedHashMap<>();
        Matcher call = CALL.matcher(Checks.section("## The public face", "## Terms"));
        while (call.find()) {
            Face face = new Face(call);
            found.put(face.name, face);
        }
        return found;
    }

    /** As one writes it when one calls it. */
    String written() {
        return name + "(" + String.join(", ", parameters) + ")";
    }

    /** Its types alone, and what it says that it throws. */
    String typed() {
        return type + " " + name + "(" + ",int".repeat(parameters.length).replaceFirst("^,", "") + ") " + thrown;
    }

    /** What it answers when it refuses. */
    String refusal() {
        return !thrown.isEmpty() ? thrown : type.equals("int") ? "NONE" : type.equals("boolean") ? "false" : "never";
    }
}
