import java.io.IOException;
import java.nio.file.Path;

/** Runs every test by sentence, and prints its name. */
public final class EdgesTest {
    public static void main(String[] args) throws IOException {
        Edges t = all(Path.of(args.length > 0 ? args[0] : "../shared/DOC.md"));
        System.out.println(t.log());
        if (t.failed() > 0) {
            System.exit(1);
        }
    }

    static Edges all(Path document) throws IOException {
        Edges t = new Edges(document);
        new HouseEdges(t).all();
        new RuleEdges(t).all();
        new RunEdges(t).all();
        new ActEdges(t).all();
        new AskEdges(t).all();
        t.everyPromiseIsTried();
        return t;
    }
}
