import java.io.IOException;
import java.lang.reflect.Method;
import java.lang.reflect.Modifier;
import java.nio.file.Files;
import java.nio.file.Path;

/** README.md says how to use the class: its example answers what stands beside it, and no call is left out. */
public final class ReadmeTest {
    private static String readme = "";

    public static void main(String[] args) throws IOException {
        readme = Files.readString(Path.of("README.md"));
        example();
        everyCallIsNamed();
        Due.end();
    }

    private static void example() {
        SymbolDictionaries d = new SymbolDictionaries(2);
        line("SymbolDictionaries d = new SymbolDictionaries(2);");
        line("int a = d.symbol(5, 3);", "0", d.symbol(5, 3));
        line("int black = d.row(a, 0, 0b01110);", "3", d.row(0, 0, 0b01110));
        line("int b = d.symbol(5, 3);", "1", d.symbol(5, 3));
        line("int before = d.refined(b, a, 0, 0);", "NONE", d.refined(1, 0, 0, 0));
        line("boolean changed = d.export(b, true);", "true", Due.of(d.export(1, true)));
        line("int bytes = d.write();", "9", d.write());
        line("int waiting = d.pass();", "9", d.pass());
        line("int symbols = d.read();", "2", d.read());
        line("int classes = d.classes(3);", "1", d.classes(3));
    }

    private static void line(String code) {
        Due.is("README.md has " + code, true, () -> readme.contains("\n" + code + " "));
    }

    /** A line of the example, with its answer as the first word of the comment behind it. */
    private static void line(String code, String said, long answer) {
        line(code);
        int from = Math.max(0, readme.indexOf(code)) + code.length();
        String comment = readme.substring(from, readme.indexOf('\n', from)).trim();
        Due.same("README.md, beside " + code, comment.replaceAll("^// (\\w+).*", "$1"), said);
        Due.is(code, said.equals("NONE") ? SymbolDictionaries.NONE : said.equals("true") ? 1 : Long.parseLong(said), () -> answer);
    }

    private static void everyCallIsNamed() {
        for (Method method : SymbolDictionaries.class.getDeclaredMethods()) {
            if (Modifier.isPublic(method.getModifiers())) {
                Due.is("README.md tells of " + method.getName(), true, () -> readme.contains("`" + method.getName() + "("));
            }
        }
        Due.is("README.md says how to run the tests", true, () -> readme.contains("\n.ci/run\n"));
    }
}
