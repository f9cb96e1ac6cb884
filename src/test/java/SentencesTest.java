import java.io.IOException;
import java.nio.charset.StandardCharsets;
import java.nio.file.DirectoryStream;
import java.nio.file.Files;
import java.nio.file.Path;
import java.util.ArrayList;
import java.util.LinkedHashMap;
import java.util.List;
import java.util.Map;
import java.util.regex.Matcher;
import java.util.regex.Pattern;

/**
 * The sentences that the tests of bounds name: each one stands in the document where the test says, and all that the
 * terms and the promises say is named by some test. So when the document is changed, this tells which tests to look at.
 */
final class SentencesTest {
    private static final Path DOCUMENT = Path.of("../shared/DOC.md");
    private static final Path TESTS = Path.of("src/test/java");

    private static final String LITERALS = "((?:\"[^\"]*\"\\s*\\+?\\s*)+)";
    private static final Pattern NAMED =
        Pattern.compile("Due\\.sentence\\(\\s*" + LITERALS + ",\\s*" + LITERALS + "\\)");

    private static String plain(String text) {
        return text.replaceAll("```(text)?", " ").replaceAll("\\s+", " ").trim();
    }

    private static String joined(String literals) {
        StringBuilder told = new StringBuilder();
        Matcher literal = Pattern.compile("\"([^\"]*)\"").matcher(literals);
        while (literal.find()) {
            told.append(literal.group(1));
        }
        return told.toString();
    }

    /** The stretches of the document by the names that the tests give them. */
    private static Map<String, String> sections(String document) {
        Map<String, String> sections = new LinkedHashMap<>();
        sections.put("What it is", between(document, "## What it is", "## "));
        sections.put("Terms 0", between(document, "## Terms", "==== 1"));
        for (int part = 1; part <= 3; part++) {
            sections.put("Terms " + part, between(document, "==== " + part, part < 3 ? "==== " : "Ahead of the calls"));
        }
        for (int promise = 1; promise <= 30; promise++) {
            String whole = between(document, "## Promise " + promise + ":", "## ");
            sections.put("Promise " + promise, whole.substring(whole.indexOf("`: ") + 2));
        }
        return sections;
    }

    private static String between(String document, String start, String end) {
        int from = document.indexOf(start);
        if (from < 0) {
            return "";
        }
        from += start.length();
        int to = document.indexOf(end, from);
        return plain(document.substring(from, to < 0 ? document.length() : to));
    }

    /** Where each sentence that a test names stands, and its words. */
    private static List<String[]> named() throws IOException {
        List<String[]> named = new ArrayList<>();
        try (DirectoryStream<Path> tests = Files.newDirectoryStream(TESTS, "Bounds*Test.java")) {
            for (Path test : tests) {
                Matcher name = NAMED.matcher(Files.readString(test, StandardCharsets.UTF_8));
                while (name.find()) {
                    named.add(new String[] {joined(name.group(1)), plain(joined(name.group(2)))});
                }
            }
        }
        return named;
    }

    private static void allStandThere(Map<String, String> sections, List<String[]> named) {
        for (String[] name : named) {
            String section = sections.getOrDefault(name[0], "");
            Due.that("that " + name[0] + " says: " + name[1], section.contains(name[1]));
        }
    }

    /** What is left of a section when all that is named is taken away. */
    private static String leftOf(String where, String section, List<String[]> named) {
        char[] left = section.toCharArray();
        for (String[] name : named) {
            int at = name[0].equals(where) ? section.indexOf(name[1]) : -1;
            for (int i = Math.max(0, at); i < at + name[1].length() && at >= 0; i++) {
                left[i] = '~';
            }
        }
        return new String(left);
    }

    private static void allIsNamed(Map<String, String> sections, List<String[]> named) {
        for (String where : sections.keySet()) {
            if (where.equals("What it is")) {
                continue;
            }
            for (String stretch : leftOf(where, sections.get(where), named).split("~+")) {
                boolean isOnlySigns = stretch.replaceAll("[^A-Za-z0-9]", "").isEmpty();
                Due.that("that a test names " + where + ": " + stretch, isOnlySigns);
            }
        }
    }

    public static void main(String[] args) throws IOException {
        if (!Files.exists(DOCUMENT)) {
            System.out.println("the document is not there to be compared with");
            return;
        }
        Map<String, String> sections = sections(Files.readString(DOCUMENT, StandardCharsets.UTF_8));
        List<String[]> named = named();
        Due.that("sentences are named", named.size() > 100);
        allStandThere(sections, named);
        allIsNamed(sections, named);
        System.out.println(named.size() + " sentences named");
        Due.finish();
    }
}
