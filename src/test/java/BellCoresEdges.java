import java.io.IOException;
import java.nio.file.Files;
import java.nio.file.Path;

/**
 * For each sentence of the document that names a boundary case, a test of its own, which bears the sentence: what lies
 * just inside and just outside, what is asked of nothing, what is full, and each refused call with its reason, its
 * detail and the state that it leaves. The tests stand in src/test/edges. To be run from the project's folder: the
 * sentences are looked up in ../shared/DOC.md.
 */
public final class BellCoresEdges extends Edges {
    private static final Path DOCUMENT = Path.of("..", "shared", "DOC.md");

    public static void main(String[] args) throws IOException {
        FurnaceEdges.test();
        BellEdges.test();
        PouringAllEdges.test();
        TextEdges.test();
        StateEdges.test();
        FurnacePromiseEdges.test();
        BellPromiseEdges.test();
        PealPromiseEdges.test();
        TextPromiseEdges.test();
        AccountPromiseEdges.test();
        if (Files.isReadable(DOCUMENT)) {
            checkQuotes(DOCUMENT);
        }
        System.out.println(broken == 0 ? tests + " edges hold" : broken + " edges do not hold, of " + tests);
        if (broken != 0) {
            System.exit(1);
        }
    }
}
