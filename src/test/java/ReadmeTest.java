import java.lang.reflect.Method;
import java.lang.reflect.Modifier;
import java.nio.charset.StandardCharsets;
import java.nio.file.Files;
import java.nio.file.Path;

/** README.md: the calls of its example answer as it says, and its table has every method of the face. */
public final class ReadmeTest {
    private static final Check CHECK = new Check("ReadmeTest");

    public static void main(String[] args) throws java.io.IOException {
        example();
        table(Files.readString(Path.of("README.md"), StandardCharsets.UTF_8));
        CHECK.end();
    }

    private static void example() {
        LossyPair pair = new LossyPair();
        pair.make(7, 200);
        pair.key(0, 1L, 2L);
        pair.key(1, 1L, 2L);
        pair.name(0, 77L, 5L);
        pair.name(1, 77L, 6L);
        pair.begin();
        CHECK.due("the client's HELLO is in the net", pair.net(1), 1);
        pair.run(4);
        CHECK.due("state(0)", pair.state(0), 2);
        CHECK.due("state(1)", pair.state(1), 2);
        pair.draft(3, 0x636261L);
        pair.write(0);
        pair.run(1);
        CHECK.due("got(1)", pair.got(1), 1);
        CHECK.due("gotOctet(1, 0, 0)", pair.gotOctet(1, 0, 0), 97);
    }

    private static void table(String readme) {
        int methods = 0;
        for (Method method : LossyPair.class.getDeclaredMethods()) {
            if (Modifier.isPublic(method.getModifiers())) {
                methods++;
                CHECK.yes("the table has " + method.getName(), readme.contains("\n| `" + method.getName() + "("));
            }
        }
        CHECK.due("methods of the face", methods, 23);
        CHECK.yes("the constructor", readme.contains("\n| `new LossyPair()`"));
    }
}
