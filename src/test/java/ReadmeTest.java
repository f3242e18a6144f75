import java.io.IOException;
import java.lang.reflect.Method;
import java.lang.reflect.Modifier;
import java.nio.file.DirectoryStream;
import java.nio.file.Files;
import java.nio.file.Path;

/** README.md tells what stands: its example answers what it says, and it names each call and each test. */
public final class ReadmeTest {
    private static final Path README = Path.of("README.md");
    private static final Path TESTS = Path.of("src", "test", "java");

    private static String page = "";

    public static void main(String[] args) throws IOException {
        page = Files.readString(README);
        theExampleAnswersWhatItTells();
        eachCallIsNamed();
        eachTestIsNamed();
        Check.end();
    }

    private static void theExampleAnswersWhatItTells() {
        shows("KingTies x = new KingTies();          // nobody is there, no land, and the year is 0");
        KingTies x = new KingTies();
        Check.same("the year", x.count(0), 0);
        Check.same("persons", x.count(1), 0);
        Check.same("lands", x.count(4), 0);
        shows("int king = x.come(true, 30);          // persons and lands are told by numbers from 0");
        int king = x.come(true, 30);
        Check.same("the king", king, 0);
        shows("int queen = x.come(false, 25);\n");
        int queen = x.come(false, 25);
        shows("int land = x.found(10, 0, king);      // worth 10, law 0 (sons first)");
        int land = x.found(10, 0, king);
        Check.same("the land", land, 0);
        shows("x.marry(king, queen, land);           // 10; he gives her the land: land(land, 2) is the queen");
        Check.same("marry", x.marry(king, queen, land), 10);
        Check.same("the ruler behind the marriage", x.land(land, 2), queen);
        shows("int son = x.bear(queen, true);\n");
        int son = x.bear(queen, true);
        shows("x.rules(son);                         // 55: when she is 80");
        Check.same("rules", x.rules(son), 55);
        shows("x.pass(55);                           // 2 die: king and queen");
        Check.same("pass", x.pass(55), 2);
        Check.same("the queen's year of death", x.person(queen, 9), 55);
        Check.same("the king lives", x.person(king, 2), 0);
        shows("x.land(land, 2);                      // the son");
        Check.same("the ruler in the end", x.land(land, 2), son);
    }

    private static void eachCallIsNamed() {
        for (Method call : KingTies.class.getDeclaredMethods()) {
            if (Modifier.isPublic(call.getModifiers())) {
                shows("\n| `" + call.getName() + "(");
            }
        }
    }

    private static void eachTestIsNamed() throws IOException {
        try (DirectoryStream<Path> files = Files.newDirectoryStream(TESTS, "*Test.java")) {
            for (Path file : files) {
                shows("`" + file.getFileName().toString().replace(".java", "") + "`");
            }
        }
    }

    private static void shows(String words) {
        Check.same("whether README.md has " + words, page.contains(words) ? 1 : 0, 1);
    }
}
