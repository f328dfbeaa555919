import java.io.IOException;
import java.nio.file.Files;
import java.nio.file.Path;
import java.util.ArrayList;
import java.util.List;
import java.util.regex.Matcher;
import java.util.regex.Pattern;

/** Rules of LANGUAGE.md that can be seen in the text of the class, and the room that its calls take. */
public final class LanguageTest {
    private static final Path SOURCE = Path.of("src/main/java/PostalAuction.java");
    private static final String[] FORBIDDEN = {"\\bpackage\\b", "\\bimport (?!java\\.util\\.)", "\\bthrow\\b", "\\bthrows\\b",
        "\\btry\\b", "\\bcatch\\b", "\\bsynchronized\\b", "\\bassert\\b", "\\) *->", "::", "\\bstatic \\{", "\\bObject\\b",
        "\\bhashCode\\b", "String toString\\(", "boolean equals\\(", "Exact\\b", "\\?>|<\\?",
        "\\bMap\\b", "\\bSet\\b", "\\bSystem\\.(?!arraycopy)", "\\bRandom\\b", "\\bThread\\b", "[^\\x0A\\x0D\\x20-\\x7E]"};
    /** A part of the room of 7.3 million elements that all calls of a run share, of 8 bytes each. */
    private static final long MOST_BYTES = 8_000_000;

    public static void main(String[] args) throws IOException {
        String source = Files.readString(SOURCE);
        String code = source.replaceAll("(?s)/\\*.*?\\*/", "").replaceAll("//[^\n]*", "");
        for (String word : FORBIDDEN) {
            Script.due("places of " + word, Pattern.compile(word).matcher(code).results().count(), 0);
        }
        List<String> types = found(code, "\\b(?:class|enum|record|interface) (\\w+)");
        Script.due("classes beyond 12", Math.max(types.size() - 12, 0), 0);
        Script.due("classes that are not static", found(code, "\n {4}.*(?<!static )(?:final )class (\\w+)").stream()
                .filter(type -> !code.contains("private static final class " + type)).count(), 0);
        Script.due("static fields that are not final", found(code, "\\bstatic (?!final)[\\w\\[\\]]+ (\\w+) *[=;]").size(), 0);
        looksAtMethods(code.split("\n"));
        callsTakeLittleRoom();
        Script.end("LanguageTest");
    }

    private static List<String> found(String code, String pattern) {
        List<String> names = new ArrayList<>();
        Matcher matcher = Pattern.compile(pattern).matcher(code);
        while (matcher.find()) {
            names.add(matcher.group(1));
        }
        return names;
    }

    private static void looksAtMethods(String[] lines) {
        Pattern head = Pattern.compile("^( +)[\\w \\[\\]]*?(\\w+)\\(([^)]*)\\) \\{$");
        for (int i = 0; i < lines.length; i++) {
            Matcher matcher = head.matcher(lines[i]);
            if (matcher.matches() && !List.of("if", "for", "while", "switch").contains(matcher.group(2))) {
                int end = i;
                while (!lines[end].equals(matcher.group(1) + "}")) {
                    end++;
                }
                Script.due("lines beyond 60 of " + matcher.group(2), Math.max(end - i + 1 - 60, 0), 0);
                Script.due("parameters beyond 7 of " + matcher.group(2),
                        Math.max(matcher.group(3).split(",").length - 7, 0), 0);
            }
        }
    }

    private static void callsTakeLittleRoom() {
        com.sun.management.ThreadMXBean threads =
                (com.sun.management.ThreadMXBean) java.lang.management.ManagementFactory.getThreadMXBean();
        if (!threads.isThreadAllocatedMemorySupported()) {
            return;
        }
        busyRun(new PostalAuction());
        long before = threads.getCurrentThreadAllocatedBytes();
        busyRun(new PostalAuction());
        long taken = threads.getCurrentThreadAllocatedBytes() - before;
        Script.due("bytes that an auction and 500 calls take beyond the room", Math.max(taken - MOST_BYTES, 0), 0);
    }

    private static void busyRun(PostalAuction auction) {
        for (int i = 0; i < 20; i++) {
            auction.addLot(i % 5, i, 2 * i);
            auction.addBidder(1000 * i);
        }
        for (int i = 0; i < 60; i++) {
            auction.bid(i % 8, i % 20, 50 + i, i, i % 3);
            auction.sale(i % 20, 0);
            auction.needed(i % 8, i % 20, 5);
        }
        for (int i = 0; i < 50; i++) {
            auction.undo();
            auction.type("0=5/1=7,".charAt(i % 8));
            auction.letter(i % 8, 5);
            auction.account(i % 7);
            auction.set(3, i);
        }
    }
}
