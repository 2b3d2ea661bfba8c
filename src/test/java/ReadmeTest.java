import java.io.IOException;
import java.nio.file.Files;
import java.nio.file.Path;

/** The calls that README.md shows under "Use" answer what it says beside them. */
public final class ReadmeTest {
    private final Check check = new Check();
    private final String readme;

    private ReadmeTest(String readme) {
        this.readme = readme.replaceAll(" +", " ");
    }

    public static void main(String[] args) throws IOException {
        new ReadmeTest(Files.readString(Path.of("README.md"))).run();
    }

    private void run() {
        ChooseTree tree = new ChooseTree();
        int face = tree.add(0, 0, 1);
        shown("int face = tree.add(0, 0, 1); // ", face, 1);
        int wanted = tree.method(face, 5, 1, 4);
        shown("int wanted = tree.method(face, 5, 1, 4); // ", wanted, 0);
        int type = tree.add(0, 2, 0);
        shown("int type = tree.add(0, 2, 0); // ", type, 2);
        shown("tree.implement(type, face); // ", tree.implement(type, face), 1);
        int given = tree.method(type, 5, 1, 0);
        shown("int given = tree.method(type, 5, 1, 0); // ", given, 1);
        boolean said = readme.contains("tree.overrides(given, wanted); // true");
        check.due("README.md shows overrides", said, true);
        check.due("overrides(given, wanted)", tree.overrides(given, wanted), true);
        shown("tree.find(type, 5); // ", tree.find(type, 5), 1);
        shown("tree.choose(type, wanted); // ", tree.choose(type, wanted), 1);
        shown("tree.nearest(type, 5, 0); // ", tree.nearest(type, 5, 0), 0);
        shown("tree.kin(wanted); // ", tree.kin(wanted), 1);
        check.end();
    }

    private void shown(String line, int got, int want) {
        check.due("README.md shows " + line + want, readme.contains(line + want), true);
        check.due(line, got, want);
    }
}
