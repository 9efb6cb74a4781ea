import java.io.IOException;
import java.lang.reflect.Method;
import java.lang.reflect.Modifier;
import java.nio.file.Files;
import java.nio.file.Path;

/** README.md names every method, what it throws, and every test; its example answers what it says there. */
public final class ReadmeTest {
    public static void main(String[] args) throws IOException {
        String text = Files.readString(Path.of("README.md"));
        namesEveryMethod(text);
        namesEveryTest(text);
        exampleAnswersSo();
        Check.end();
    }

    private static void namesEveryMethod(String text) {
        for (Method method : SplitDesk.class.getDeclaredMethods()) {
            if (Modifier.isPublic(method.getModifiers())) {
                String call = "| `" + method.getReturnType() + " " + method.getName() + "(";
                Check.same("README.md has a row for " + method, text.contains(call), true);
                for (Class<?> thrown : method.getExceptionTypes()) {
                    String row = text.lines().filter(line -> line.startsWith(call)).findFirst().orElse("");
                    Check.same("it has " + thrown, row.contains(thrown.getSimpleName()), true);
                }
            }
        }
    }

    private static void namesEveryTest(String text) throws IOException {
        try (var files = Files.list(Path.of("src", "test", "java"))) {
            for (Path file : files.sorted().toList()) {
                String name = file.getFileName().toString().replace(".java", "");
                boolean among = name.matches("Promise(0[2-9]|1[0-3])BoundaryTest");
                Check.same("README.md names " + name, among || text.contains("`" + name + "`")
                    || text.contains("`@" + name + "`"), true);
            }
        }
    }

    private static void exampleAnswersSo() {
        SplitDesk desk = new SplitDesk();
        Check.due("deal", () -> desk.deal(0, 2, 9, 12345, 7), true);
        Check.due("put", () -> desk.put(0, 3, 5), true);
        Check.due("lose", () -> desk.lose(0, 8), true);
        Check.due("find", () -> desk.find(0, 2), 1);
        Check.due("at", () -> desk.at(0), 12345);
        Check.due("wrong", () -> desk.wrong(3), true);
        Check.due("mend", () -> desk.mend(), true);
        Desks.shares("mended", desk, 0, Desks.onDealt(2, 9, 12345, 7));
    }
}
