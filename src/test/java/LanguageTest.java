import java.util.regex.Matcher;
import java.util.regex.Pattern;

/**
 * What a look at the source can tell of ../shared/LANGUAGE.md; FaceTest has rule 1. Where the class gets by with less
 * than a rule leaves it (no try, no while, Math.min and Math.max alone), it is held to that, as it is easier to see.
 */
public final class LanguageTest {
    private static final String CODE = Source.code();
    private static final String WITHOUT_TEXTS = CODE.replaceAll("\"[^\"\\n]*\"", "\"\"");

    public static void main(String[] args) {
        nothingFromOutside();
        noWordThatIsRuledOut();
        libraryCalls();
        staticFields();
        exceptions();
        loops();
        sizes();
        texts();
        Check.end();
    }

    private static int times(String pattern) {
        return (int) Pattern.compile(pattern).matcher(WITHOUT_TEXTS).results().count();
    }

    private static void nothingFromOutside() {
        Check.sentence("The program is one file");
        Check.due("package and import lines", times("\\b(package|import)\\b"), 0);
        Check.due("classes", times("\\b(class|record|enum|interface)\\s+\\w+"), 3);
        Check.due("public classes", times("\\bpublic final class\\b"), 1);
    }

    private static void noWordThatIsRuledOut() {
        hasNone("no lambda, no method reference", "->", "::");
        hasNone("No finally, no try with resources", "\\bfinally\\b", "\\btry\\b", "\\bcatch\\b");
        hasNone("No synchronized, assert, switch with patterns", "\\bsynchronized\\b", "\\bassert\\b");
        hasNone("No equals, hashCode or toString of your own objects", "\\bequals\\b", "\\bhashCode\\b", "\\btoString\\b");
        hasNone("no static initialiser block", "\\bstatic\\s*\\{");
        hasNone("No clock, no randomness, no file, network, thread or environment", "\\bSystem\\b", "\\bThread\\b", "\\bnative\\b");
    }

    private static void hasNone(String rule, String... words) {
        Check.sentence(rule);
        for (String word : words) {
            Check.due("times " + word, times(word), 0);
        }
    }

    private static void libraryCalls() {
        Check.sentence("4. The library: only what stands here.");
        Matcher call = Pattern.compile("\\b([A-Z]\\w*)\\.(\\w+)\\(").matcher(WITHOUT_TEXTS);
        while (call.find()) {
            Check.yes(call.group(), call.group(1).equals("Math") && call.group(2).matches("min|max"));
        }
    }

    private static void staticFields() {
        Check.sentence("5. Static fields are final");
        Check.due("static fields that are not private final or NONE",
                times("\\bstatic (?!final|class|boolean is\\w+\\(|int \\w+\\()"), 0);
        Check.due("rows that are static", times("\\bstatic final int\\[\\]"), 1);
        Check.due("changes of that row", times("DUE_BEHIND_LIMIT\\[[^\\]]*\\]\\s*(=[^=]|\\+\\+|--|[-+*/]=)"), 0);
    }

    /** Every exception that can be thrown is written out, and no constructor throws. */
    private static void exceptions() {
        Check.sentence("6. Exceptions: throw new E() or throw new E(\"a written text\")");
        Check.due("throws of another form", times("\\bthrow\\s+(?!new Illegal(Argument|State)Exception\\(\"\"\\);"
                + "|new IndexOutOfBoundsException\\(\"\"\\);)"), 0);
        Matcher constructor = Pattern.compile("(?m)^( +)(public )?(TransitSteps|Movement|Message)\\([^)]*\\) \\{$(?s:.*?)^\\1\\}$")
                .matcher(WITHOUT_TEXTS);
        int constructors = 0;
        while (constructor.find()) {
            constructors++;
            Check.no("throw or call in " + constructor.group(3),
                    constructor.group().contains("throw") || constructor.group().matches("(?s).*\\{.*\\w\\(.*"));
        }
        Check.due("constructors", constructors, 3);
    }

    private static void loops() {
        Check.sentence("9. Every loop has an end that can be seen from its own lines");
        Check.due("while and do", times("\\b(while|do)\\b"), 0);
        Check.due("loops without a counter against a bound", times("\\bfor \\((?!int (\\w+) = 0; \\1 < [\\w.]+( && [^;]+)?; \\1\\+\\+\\))"), 0);
    }

    private static void sizes() {
        Check.sentence("11. A method takes at most seven parameters. Methods stay short (some sixty lines)");
        Matcher method = Pattern.compile("(?m)^( +)[\\w ]*\\b(\\w+)\\(([^)]*)\\)[^;{=]*\\{$((?s).*?)^\\1\\}$").matcher(WITHOUT_TEXTS);
        int methods = 0;
        while (method.find()) {
            methods++;
            String name = method.group(2);
            Check.yes(name + " takes at most seven", method.group(3).split(",").length <= 7);
            Check.yes(name + " is short", method.group(4).lines().count() <= 60);
        }
        Check.yes("as many methods as the face has, at least", methods >= 13);
    }

    private static void texts() {
        Check.sentence("3. Texts hold characters 0 to 255 alone.");
        Check.yes("every character", Source.whole().chars().allMatch(c -> c <= 255));
        Check.due("texts joined by +", times("\"\"\\s*\\+|\\+\\s*\"\""), 0);
    }
}
