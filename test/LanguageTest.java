import java.nio.file.Files;
import java.nio.file.Path;
import java.util.List;
import java.util.regex.Matcher;
import java.util.regex.Pattern;

/** Looks in the class's text for what LANGUAGE.md rules out, as far as a plain search can tell. */
public final class LanguageTest {
    private static final String[] RULED_OUT = {"import ", "package ", "catch", "throw", "finally", "synchronized", "assert ",
        "->", "::", "static {", "System.", "Exact", "instanceof", "String", "double", "float", "protected", "Integer", "var "};
    private static final String FACE = "cords say wipe fault teach drown row same shortest rows twist ends about slips "
        + "whose forger given worn scrap burn who descent year image restore told";
    private static final Pattern METHOD = Pattern.compile(
        "^( {4}| {8})((?:public |private |static |final )*)(?:int|boolean|void|Row|Coast) (\\w+)\\((.*)\\) \\{$");
    private static int wrong = 0;

    private static void fail(int line, String what) {
        wrong++;
        System.out.println("KnotSigns.java:" + line + ": " + what);
    }

    private static String bare(String line) {
        int comment = line.indexOf("//");
        String code = comment < 0 ? line : line.substring(0, comment);
        return code.strip().startsWith("*") || code.strip().startsWith("/*") ? "" : code;
    }

    private static void lookAtMethod(List<String> lines, int i, Matcher method) {
        boolean isPublic = method.group(2).contains("public");
        boolean named = (" " + FACE + " ").contains(" " + method.group(3) + " ");
        if (isPublic != named) {
            fail(i + 1, method.group(3) + " is " + (isPublic ? "public" : "named as a public one"));
        }
        if (method.group(4).split(",").length > 7) {
            fail(i + 1, "too many parameters");
        }
        int end = i;
        while (end < lines.size() && !lines.get(end).equals(method.group(1) + "}")) {
            end++;
        }
        if (end - i > 60) {
            fail(i + 1, method.group(3) + " is too long");
        }
    }

    public static void main(String[] args) throws Exception {
        Path root = Path.of(args.length > 0 ? args[0] : ".");
        List<String> lines = Files.readAllLines(root.resolve("src/main/java/KnotSigns.java"));
        int methods = 0;
        int classes = 0;
        for (int i = 0; i < lines.size(); i++) {
            String code = bare(lines.get(i));
            for (String ruledOut : RULED_OUT) {
                if (code.contains(ruledOut)) {
                    fail(i + 1, "holds " + ruledOut);
                }
            }
            Matcher method = METHOD.matcher(code);
            if (method.matches()) {
                lookAtMethod(lines, i, method);
                methods += method.group(2).contains("public") ? 1 : 0;
            }
            if (code.contains(" class ")) {
                classes++;
                if (classes > 1 && !code.startsWith("    private static final class ")) {
                    fail(i + 1, "a class inside is neither private nor static nor final");
                }
            }
            if (lines.get(i).length() > 120 || !lines.get(i).chars().allMatch(sign -> sign >= 32 && sign < 127)) {
                fail(i + 1, "a long line or an odd sign");
            }
        }
        if (methods != FACE.split(" ").length || classes > 12) {
            fail(0, methods + " public methods, " + classes + " classes");
        }
        System.out.println("LanguageTest: " + (wrong == 0 ? "nothing found" : wrong + " found"));
        if (wrong != 0) {
            System.exit(1);
        }
    }
}
