import java.io.IOException;
import java.nio.file.Files;
import java.nio.file.Path;
import java.util.regex.Matcher;
import java.util.regex.Pattern;

/** What can be read off the source of the rules in LANGUAGE.md. The source's path is the first argument. */
public final class FloorEyesLanguage {
    private static final String[] BANNED = {
        "->", "::", "\\bsynchronized\\b", "\\bassert\\b", "\\bfinally\\b", "\\bpackage\\b", "\\bprotected\\b",
        "\\bextends\\b", "Exact\\(", "\\bSystem\\.(?!arraycopy)", "\\bRandom\\b", "\\bThread\\b", "\\bcatch\\b",
        "\\bObject\\b", "\\bhashCode\\b", "\\btoString\\b", "\\bvar\\b", "static \\{", "\\bdouble\\b", "\\bfloat\\b"};
    private static final Pattern METHOD = Pattern.compile(
            "(?m)^( +)(?:public|private)[\\w\\[\\] ]*? (\\w+)\\(([^)]*)\\)[^;{]*\\{$");
    private static int wrong = 0;

    public static void main(String[] args) throws IOException {
        Path path = Path.of(args.length > 0 ? args[0] : "src/main/java/FloorEyes.java");
        String source = Files.readString(path).replaceAll("(?s)/\\*.*?\\*/", "").replaceAll("//[^\n]*", "");
        for (String banned : BANNED) {
            need(!Pattern.compile(banned).matcher(source).find(), "the source has " + banned);
        }
        needImports(source);
        needShortMethods(source);
        needFinalStatics(source);
        System.out.println(wrong == 0 ? "the source keeps to the rules read here" : wrong + " rules are broken");
        if (wrong != 0) {
            System.exit(1);
        }
    }

    private static void needImports(String source) {
        Matcher matcher = Pattern.compile("(?m)^import ([^;]*);").matcher(source);
        while (matcher.find()) {
            boolean fine = matcher.group(1).matches("java\\.util\\.(Arrays|ArrayList|List|NoSuchElementException)");
            need(fine, "imports " + matcher.group(1));
        }
    }

    private static void needShortMethods(String source) {
        Matcher matcher = METHOD.matcher(source);
        int found = 0;
        while (matcher.find()) {
            found++;
            String name = matcher.group(2);
            need(matcher.group(3).split(",").length <= 7, name + " has more than seven parameters");
            int end = source.indexOf("\n" + matcher.group(1) + "}\n", matcher.end());
            need(end >= 0, name + " has no end");
            long lines = end < 0 ? 0 : source.substring(matcher.start(), end).lines().count();
            need(lines <= 60, name + " has " + lines + " lines");
        }
        need(found > 40, "only " + found + " methods were found");
    }

    private static void needFinalStatics(String source) {
        Matcher matcher = Pattern.compile("(?m)^ +(?:public|private) static (?!final )[^(]*;").matcher(source);
        while (matcher.find()) {
            need(false, "static state: " + matcher.group().trim());
        }
    }

    private static void need(boolean holds, String what) {
        if (!holds) {
            wrong++;
            System.out.println(what);
        }
    }
}
