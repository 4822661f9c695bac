import java.io.IOException;
import java.nio.file.Files;
import java.nio.file.Path;

/** The example of README.md: each call of it, in its order, answers what stands beside it. */
public final class ReadmeTest {
    private final Scene scene = new Scene();
    private final Trellistag x = scene.x;
    private final String page;
    private int told = 0;

    private ReadmeTest(String page) {
        this.page = page;
    }

    public static void main(String[] args) throws IOException {
        new ReadmeTest(Files.readString(Path.of("README.md"))).example();
        Check.finish();
    }

    private void line(String call, Object due, Check.Call made) {
        Check.answers("the example's " + call, due, made);
        int at = page.indexOf("\nx." + call + ";", told);
        Check.due("the page tells " + call + " in its order", at >= 0, true);
        told = at < 0 ? told : page.indexOf('\n', at + 1);
        String beside = at < 0 ? "" : page.substring(at, told);
        Check.due("the page tells the answer of " + call, beside.contains("// " + due + ":"), true);
    }

    private void typed(String word) {
        int at = page.indexOf("\nfor (char c : \"" + word + "\".toCharArray()) x.letter(c);\n", told);
        Check.due("the page types " + word, at >= 0, true);
        scene.type(word);
    }

    private void example() {
        typed("cats");
        line("tag(0)", 1, () -> x.tag(0));
        line("add()", 0, x::add);
        typed("rats");
        line("weight(0)", 3, () -> x.weight(0));
        line("word()", 1, x::word);
        line("path(0, 0)", 0, () -> x.path(0, 0));
        line("product(0)", 6, () -> x.product(0));
        line("cost()", 58, x::cost);
        line("share(0, 0)", 600, () -> x.share(0, 0));
        line("lock(0, 4)", -1, () -> x.lock(0, 4));
        line("path(0, 0)", 4, () -> x.path(0, 0));
        line("path(1, 0)", -1, () -> x.path(1, 0));
        line("text(0, false)", true, () -> x.text(0, false));
        line("product(0)", 1, () -> x.product(0));
    }
}
