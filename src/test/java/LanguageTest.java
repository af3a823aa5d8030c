import java.io.IOException;
import java.lang.reflect.Member;
import java.lang.reflect.Modifier;
import java.nio.file.Files;
import java.nio.file.Path;
import java.util.ArrayList;
import java.util.List;
import java.util.regex.Matcher;
import java.util.regex.Pattern;

/** What can be seen of the rules in ../shared/LANGUAGE.md from the source and from the class. */
public final class LanguageTest {
    private static final Due DUE = new Due();

    public static void main(String[] args) throws IOException {
        String source = Files.readString(Path.of("src/main/java/PartText.java"));
        String code = source.replaceAll("(?s)/\\*.*?\\*/", "").replaceAll("//[^\n]*", "")
            .replaceAll("\"[^\"\n]*\"", "TEXT");
        String[] none = {"\\b(throw|throws|try|catch|synchronized|assert|import|package|protected|native|volatile)\\b",
            "->", "::", "\\b\\w+Exact\\b", "\\+ TEXT|TEXT \\+", "\\bswitch \\(.*TEXT", "\\.(equals|hashCode|toString)\\(",
            "\\bSystem\\.(?!arraycopy)", "static \\{"};
        for (String one : none) {
            Matcher found = Pattern.compile(one).matcher(code);
            DUE.is("no <" + one + ">", "", found.find() ? found.group() : "");
        }
        face();
        lengths(code);
        DUE.end();
    }

    private static void face() {
        List<Member> members = new ArrayList<>();
        members.addAll(List.of(PartText.class.getDeclaredMethods()));
        members.addAll(List.of(PartText.class.getDeclaredConstructors()));
        members.addAll(List.of(PartText.class.getDeclaredFields()));
        List<String> open = new ArrayList<>();
        List<String> hidden = new ArrayList<>();
        for (Member member : members) {
            if (Modifier.isPrivate(member.getModifiers())) {
                hidden.add(member.getName());
            } else {
                open.add(member.getName());
            }
        }
        open.sort(null);
        DUE.is("the face", "[PartText, at, check, compare, connector, part, port, print, read, runnable, sign, unit]",
            open.toString());
        hidden.retainAll(open);
        DUE.is("private ones with a public name", "[]", hidden.toString());
        DUE.is("final", 1, Modifier.isFinal(PartText.class.getModifiers()) ? 1 : 0);
        DUE.is("at most 12 classes", 1, PartText.class.getDeclaredClasses().length < 12 ? 1 : 0);
        for (Class<?> inside : PartText.class.getDeclaredClasses()) {
            DUE.is(inside + " is static", 1, Modifier.isStatic(inside.getModifiers()) ? 1 : 0);
        }
    }

    private static void lengths(String code) {
        Matcher method = Pattern.compile("(?m)^( {4}| {8})\\w[\\w\\[\\] ]* (\\w+)\\(([^)]*)\\) \\{\n((?:(?!\\1\\}).*\n)*)")
            .matcher(code);
        int methods = 0;
        while (method.find()) {
            methods++;
            DUE.is(method.group(2) + " is short", 1, method.group(4).split("\n").length <= 60 ? 1 : 0);
            DUE.is(method.group(2) + " has few parameters", 1, method.group(3).split(",").length <= 7 ? 1 : 0);
        }
        DUE.is("methods are found", 1, methods > 50 ? 1 : 0);
    }
}
