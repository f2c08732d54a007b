import java.io.IOException;
import java.lang.reflect.Method;
import java.lang.reflect.Modifier;
import java.nio.file.Files;
import java.nio.file.Path;

/** README.md's example answers what is written beside it, and its table names every call. */
public final class ReadmeTest {
    public static void main(String[] args) throws IOException {
        example();
        namesEveryCall(Files.readString(Path.of("README.md")));
        Check.end("ReadmeTest");
    }

    private static void example() {
        MarketAwnings square = new MarketAwnings();
        Check.is("hang", square.hang(2, 2, 6, 4, 3, 3), 0);
        Check.is("stall", square.stall(4, 6), 0);
        Check.is("rain", square.rain(1), 576);
        Check.is("told", square.told(0, 2), 5);
    }

    private static void namesEveryCall(String readme) {
        for (Method method : MarketAwnings.class.getDeclaredMethods()) {
            if (Modifier.isPublic(method.getModifiers())) {
                Check.is("README names " + method.getName(), readme.contains("| `" + method.getName() + "("), true);
            }
        }
    }
}
