import java.io.IOException;
import java.lang.reflect.Field;
import java.lang.reflect.Method;
import java.lang.reflect.Modifier;
import java.nio.file.Files;
import java.nio.file.Path;
import java.util.List;

/** README.md: each answer in its example is the one that the call gives, and no call or constant is missing. */
public final class ReadmeTest {
    private final Due due;
    private final List<String> lines;
    private int next = 0;

    private ReadmeTest(Due due, List<String> lines) {
        this.due = due;
        this.lines = lines;
    }

    public static void main(String[] args) throws IOException, IllegalAccessException {
        Due due = new Due("ReadmeTest");
        ReadmeTest readme = new ReadmeTest(due, Files.readAllLines(Path.of("README.md")));
        readme.example();
        readme.calls();
        readme.constants();
        due.end();
    }

    private void example() {
        EscrowedVersions keys = new EscrowedVersions();
        for (int b = 1; b <= 8; b++) {
            keys.coin(b);
        }
        told("keys.rotate();", keys.rotate());
        told("keys.wrap(305419896);", keys.wrap(305419896));
        told("keys.split(0, 2, 3);", keys.split(0, 2, 3));
        int first = keys.share(1);
        int third = keys.share(3);
        told("keys.lock(0);", keys.lock(0));
        told("keys.unwrap();", keys.unwrap());
        told("keys.give(0, 1, first);", keys.give(0, 1, first));
        told("keys.give(0, 3, third);", keys.give(0, 3, third));
        told("keys.unwrap();", keys.unwrap());
        told("keys.destroy(0);", keys.destroy(0));
        told("keys.entries();", keys.entries());
    }

    /** The next line of the example is this call, with its answer behind it. */
    private void told(String call, long answer) {
        while (next < lines.size() && !lines.get(next).startsWith(call)) {
            next++;
        }
        String line = next < lines.size() ? lines.get(next) : "";
        due.is(call + " with // " + answer + ":", line.contains(" // " + answer + ": "), true);
        next++;
    }

    private void calls() {
        for (Method method : EscrowedVersions.class.getDeclaredMethods()) {
            if (Modifier.isPublic(method.getModifiers())) {
                due.is("a row for " + method.getName(), hasRow("| `" + method.getName() + "("), true);
            }
        }
    }

    private void constants() throws IllegalAccessException {
        for (Field field : EscrowedVersions.class.getDeclaredFields()) {
            if (Modifier.isPublic(field.getModifiers())) {
                String row = "| `" + field.getName() + "` | " + field.getInt(null) + " |";
                due.is("a row " + row, hasRow(row), true);
            }
        }
    }

    private boolean hasRow(String beginning) {
        return lines.stream().anyMatch(line -> line.startsWith(beginning));
    }
}
