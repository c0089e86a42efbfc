import java.io.IOException;
import java.io.UncheckedIOException;
import java.nio.file.Files;
import java.nio.file.Path;
import java.util.function.Consumer;
import java.util.function.ToLongFunction;

/**
 * Looks at the edges that one sentence of the document names: the last input inside, the first
 * outside. Each look is at objects of its own, made alike.
 */
final class Edges {
    private static final Path DOCUMENT = Path.of("../shared/DOC.md");

    /** A call with one argument that is looked at for several values. */
    interface Call {
        long ask(ThreeThrough x, int v);
    }

    private final Checks checks;
    private final String document;
    private String sentence = "";
    private Consumer<ThreeThrough> making = x -> { };
    private String[] sparedLooks = new String[Looks.PARTS];

    Edges(String test) {
        checks = new Checks(test);
        try {
            document = Files.readString(DOCUMENT).replaceAll("\\s+", " ");
        } catch (IOException unread) {
            throw new UncheckedIOException(unread);
        }
    }

    /** The sentence (or the part of it) whose edges come next: it must stand so in the document. */
    void sentence(String words) {
        sentence = words;
        checks.isTrue("the document says: " + words, document.contains(words));
        of(x -> { });
    }

    /** How the objects of the next looks are made. */
    void of(Consumer<ThreeThrough> how) {
        making = how;
        sparedLooks = new String[Looks.PARTS];
    }

    private ThreeThrough made() {
        ThreeThrough x = new ThreeThrough();
        making.accept(x);
        return x;
    }

    private String told(String call) {
        return "[" + sentence + "] " + call;
    }

    void inside(String call, ToLongFunction<ThreeThrough> asked, long want) {
        checks.due(told(call), asked.applyAsLong(made()), want);
    }

    void insideFor(String call, Call asked, long want, int... values) {
        for (int v : values) {
            inside(call + " of " + v, x -> asked.ask(x, v), want);
        }
    }

    /**
     * The answer that is due, and that nothing has changed: an object made alike that was spared
     * the call is like this one ever after.
     */
    void refused(String call, ToLongFunction<ThreeThrough> asked, long want) {
        inside(call, asked, want);
        for (int part = 0; part < Looks.PARTS; part++) {
            if (sparedLooks[part] == null) {
                sparedLooks[part] = Looks.at(made(), part);
            }
            ThreeThrough x = made();
            asked.applyAsLong(x);
            checks.isTrue(told(call) + " changes nothing (part " + part + ")",
                Looks.at(x, part).equals(sparedLooks[part]));
        }
    }

    void refusedFor(String call, Call asked, long want, int... values) {
        for (int v : values) {
            refused(call + " of " + v, x -> asked.ask(x, v), want);
        }
    }

    void end() {
        checks.end();
    }

    /**
     * Something of everything: GATES of 2 and 1; PEOPLE 0 and 1 out, 2 within; NOW 7; both LAWS, an
     * IMAGE, two CHANGES to be UNDONE and one to be DONE AGAIN, "t<7" on THE TAPE, three BODIES, a
     * TRACE; a BODY on SHELF 0, rows of bytes, shorts, booleans and longs on 1 to 4, nothing on 5.
     */
    static void rich(ThreeThrough x) {
        x.gate(2);
        x.gate(1);
        x.person(5, 2);
        x.person(210, 3);
        x.person(1, 9);
        Checks.tell(x, 0, "c<9|s");
        Checks.tell(x, 1, "t%5+n");
        x.tick(1);
        x.pass(0, 3);
        x.image();
        x.tick(6);
        x.mend(0, 0, 4);
        x.mend(1, 1, 30);
        x.mend(1, 2, 3);
        x.undo();
        Checks.feed(x, "t<7");
        x.body(0);
        x.body(5);
        x.body(7);
        x.act(1, 3, 5);
        x.keep(0, 1);
        Checks.bytes(x, 1, 0, 2, 1, 1, 0, -2);
        x.row(2, 1, 4);
        x.put(2, 3, 1000);
        x.row(3, 4, 2);
        x.put(3, 1, 1);
        x.row(4, 3, 60);
        x.put(4, 59, Long.MAX_VALUE);
    }

    /** So many PEOPLE who LEAVE at 0, RETURN at 60 and COST 1. */
    static void crowd(ThreeThrough x, int n) {
        for (int i = 0; i < n; i++) {
            x.person(60, 1);
        }
    }
}
