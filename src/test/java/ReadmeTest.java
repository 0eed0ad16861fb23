import java.nio.file.Files;
import java.nio.file.Path;

/** The lines of code in README.md answer what stands behind them, in their order. */
public final class ReadmeTest {
    private static String rest = "";

    public static void main(String[] args) throws Exception {
        String readme = Files.readString(Path.of("README.md"));
        int from = readme.indexOf("```java\n");
        int to = readme.indexOf("```\n", from + 1);
        Check.due("README.md has its lines", from >= 0 && to > from, true);
        rest = from >= 0 && to > from ? readme.substring(from + 8, to) : "";
        BuriedGoods x = new BuriedGoods();
        line("BuriedGoods x = new BuriedGoods()", "no field yet");
        Check.due("no field yet", x.rule(0), BuriedGoods.NONE);
        line("x.feed(0x74703076, 0x32300000, 0, 0, 0)", x.feed(0x74703076, 0x32300000, 0, 0, 0));
        line("x.fault(0)", x.fault(0));
        line("x.text(0)", x.text(0));
        line("x.months(12)", x.months(12));
        line("x.sell(0)", x.sell(0));
        line("x.status(2)", x.status(2));
        line("x.takes(0)", x.takes(0));
        line("x.sell(0)", x.sell(0));
        line("x.rule(4)", x.rule(4));
        line("x.undo()", x.undo());
        line("x.feed(0x793a643e, 0x733f333b, 0x793a312d, 0x6d2f3600, 0)", x.feed(0x793a643e, 0x733f333b, 0x793a312d, 0x6d2f3600, 0));
        line("x.text(1)", x.text(1));
        line("x.law(0)", x.law(0));
        Check.same("no line is left", rest, "");
        Check.finish("ReadmeTest");
    }

    private static void line(String call, Object answer) {
        int end = rest.indexOf('\n');
        String line = end < 0 ? rest : rest.substring(0, end);
        rest = end < 0 ? "" : rest.substring(end + 1);
        boolean asTold = line.startsWith(call + ";") && (line + ":").contains("// " + answer + ":");
        Check.due("'" + line + "' is " + call + ", which answers " + answer, asTold, true);
    }
}
