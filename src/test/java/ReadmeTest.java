import java.io.File;
import java.io.IOException;
import java.lang.reflect.Method;
import java.lang.reflect.Modifier;
import java.nio.charset.StandardCharsets;
import java.nio.file.Files;
import java.nio.file.Paths;

/** README.md: its examples answer what it says, and it names each call and each test. */
public final class ReadmeTest {
    private static String readme = "";

    public static void main(String[] args) throws IOException {
        readme = new String(Files.readAllBytes(Paths.get("README.md")), StandardCharsets.ISO_8859_1);
        examples();
        names();
        Checks.end();
    }

    /** The line of README.md that starts so says this answer behind it. */
    private static void due(String line, long got) {
        Checks.says(line);
        int at = readme.indexOf(line);
        Checks.due("the place in README.md", at >= 0 ? 1 : 0, 1);
        String rest = at < 0 ? "" : readme.substring(at + line.length());
        rest = rest.substring(0, Math.max(0, rest.indexOf('\n')));
        Checks.due(rest, rest.matches(" *// " + got + ": .*") ? 1 : 0, 1);
    }

    private static void examples() {
        IslandOffice office = new IslandOffice();
        due("int ana = office.person(-1500, 0, -1, 3);", office.person(-1500, 0, -1, 3));
        due("int school = office.post(0, 1, 1);", office.post(0, 1, 1));
        office.store(0, 20);
        due("int heads = office.weeks(1);", office.weeks(1));
        due("int need = office.about(ana, 8);", office.about(0, 8));
        String text = "v:a>17&!k=4";
        Checks.due("the text in README.md", readme.contains("String text = \"" + text + "\";") ? 1 : 0, 1);
        Checks.text(office, 0, text);
        due("int fault = office.fault(0);", office.fault(0));
        due("int law = office.vote(0, office.count(12));", office.vote(0, office.count(12)));
        office.store(1, 3);
        office.order(0, 40);
        due("int hunger = office.lack(0, 30);", office.lack(0, 30));
        due("int cold = office.lack(1, 30);", office.lack(1, 30));
        due("int plan = office.plan();", office.plan());
        due("int taken = office.image();", office.image());
        office.weeks(10);
        due("int food = office.record(8, 2);", office.record(8, 2));
        due("int again = office.restore();", office.restore());
        Checks.due("as it was: week", office.count(7), 1);
        Checks.due("as it was: order", office.due(0), 40);
    }

    private static void names() {
        for (Method m : IslandOffice.class.getDeclaredMethods()) {
            if (Modifier.isPublic(m.getModifiers())) {
                Checks.says(m.getName());
                Checks.due("named in README.md", readme.contains("`" + m.getName() + "`") ? 1 : 0, 1);
            }
        }
        String[] files = new File("src/test/java").list();
        Checks.due("the tests stand there", files == null ? 0 : 1, 1);
        for (String file : files == null ? new String[0] : files) {
            Checks.says(file);
            Checks.due("named in README.md", readme.contains("`" + file.replace(".java", "") + "`") ? 1 : 0, 1);
        }
    }
}
