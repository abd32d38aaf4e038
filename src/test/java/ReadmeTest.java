import java.io.IOException;
import java.nio.file.Files;
import java.nio.file.Path;
import java.util.regex.Matcher;
import java.util.regex.Pattern;

/** The calls that README.md shows answer what it says; it is looked for in the folder from which this runs. */
public final class ReadmeTest {
    private static final Pattern CALL = Pattern.compile("chamber\\.(\\w+)\\((.*)\\); *// (-?\\w+).*");
    private static final int CALLS = 27;

    public static void main(String[] args) throws IOException {
        Told.sentence("README.md");
        Told x = new Told();
        int found = 0;
        for (String line : Files.readAllLines(Path.of("README.md"))) {
            Matcher call = CALL.matcher(line);
            if (call.matches()) {
                found++;
                x.due(call.group(3), call.group(1) + written(call.group(2)));
            }
        }
        Told.check("the calls that are shown", CALLS, found);
        Told.end();
    }

    private static String written(String arguments) {
        StringBuilder written = new StringBuilder();
        for (String argument : arguments.isEmpty() ? new String[0] : arguments.split(", ")) {
            written.append(' ').append(number(argument));
        }
        return written.toString();
    }

    private static int number(String argument) {
        if (argument.startsWith("'")) {
            return argument.charAt(1);
        }
        switch (argument) {
            case "FlagChamber.LAND": return FlagChamber.LAND;
            case "true": return 1;
            case "false": return 0;
            default: return Integer.parseInt(argument);
        }
    }
}
