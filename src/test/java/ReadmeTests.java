import java.io.IOException;
import java.nio.file.Files;
import java.nio.file.Path;

/** README.md tells how the class is used: its example is the one that runs here, with these answers. */
public final class ReadmeTests extends Due {
    private static final String BEGINS = "// the example begins";
    private static final String ENDS = "// the example ends";

    public static void main(String[] args) throws IOException {
        Path root = Path.of(args.length > 0 ? args[0] : ".");
        String source = Files.readString(root.resolve("src/test/java/ReadmeTests.java"));
        String readme = Files.readString(root.resolve("README.md"));
        due("the example stands in README.md", readme.contains("```java\n" + example(source) + "```\n") ? 1 : 0, 1);
        runExample();
        finish();
    }

    /** The lines between the marks, without what they are set in by. */
    private static String example(String source) {
        int from = source.indexOf(BEGINS, source.indexOf("void runExample")) + BEGINS.length() + 1;
        return source.substring(from, source.indexOf(ENDS, from)).stripIndent().stripTrailing() + "\n";
    }

    private static void runExample() {
        // the example begins
        SplicedWeb web = new SplicedWeb();
        for (char letter : "u2; u3; r40 2; r30 -3; l4; i0; p3;".toCharArray()) {
            web.type(letter);
        }
        int items = web.tells();      // 7; -10 less the fault's place, if the text can't be told
        int early = web.ticks(9);     // 1: one copy came to the camera good
        int error = web.last(5);      // 4: error of unit 2 on that copy
        int soon = web.steady();      // 6 ticks more till all errors are within idle
        int price = web.cost();       // 8 copies more would be waste, if reel 1 were pasted now
        int spun = web.spins();       // 1: the reel that is spun, so that it can be pasted
        int later = web.ticks(40);    // 39 are good; reel 0 ran out, reel 1 was pasted, the splice is waste
        int reel = web.count(7);      // 1: the reel that is on
        int more = web.undo();        // 2 more can be undone; reel 0 is on again
        int refused = web.ticks(61);  // BAD: 60 at most; nothing is changed
        // the example ends
        due("items", items, 7);
        due("early", early, 1);
        due("error", error, 4);
        due("soon", soon, 6);
        due("price", price, 8);
        due("spun", spun, 1);
        due("later", later, 39);
        due("reel", reel, 1);
        due("more", more, 2);
        due("reel 0 is on again", web.count(7), 0);
        due("refused", refused, BAD);
    }
}
