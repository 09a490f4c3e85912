import java.io.IOException;
import java.nio.file.Files;
import java.nio.file.Path;
import java.util.List;
import java.util.Set;
import java.util.regex.Matcher;
import java.util.regex.Pattern;

/** Rules of LANGUAGE.md that the text of the class shows. */
final class SourceTest {
    private static final Due DUE = new Due();
    private static final Set<String> IMPORTS = Set.of("java.util.ArrayList", "java.util.Arrays", "java.util.List",
        "java.util.Iterator", "java.util.NoSuchElementException");
    private static final Set<String> THROWN = Set.of("IllegalStateException", "IllegalArgumentException",
        "IndexOutOfBoundsException", "ArithmeticException", "UnsupportedOperationException",
        "NoSuchElementException", "RuntimeException");
    /** What a name of the library is followed by in rule 4. */
    private static final List<String> LIBRARY = List.of("Math.max", "Math.min", "Math.abs", "Math.floorMod",
        "Math.floorDiv", "Integer.bitCount", "Integer.compare", "Arrays.fill", "Arrays.copyOf", "Arrays.copyOfRange",
        "System.arraycopy");
    private static final int MOST_LINES = 60;

    public static void main(String[] args) throws IOException {
        String text = Files.readString(Path.of("src/main/java/LockedHouse.java"));
        DUE.yes("signs 1 to 127 alone", text.chars().allMatch(c -> c > 0 && c < 128));
        String code = text.replaceAll("(?s)/\\*.*?\\*/", "").replaceAll("//[^\n]*", "");
        imports(code);
        words(code);
        thrown(code);
        library(code);
        methods(code);
        DUE.end("SourceTest");
    }

    private static void imports(String code) {
        Matcher found = Pattern.compile("(?m)^import (static )?([\\w.*]+);").matcher(code);
        while (found.find()) {
            DUE.yes("import of " + found.group(2), found.group(1) == null && IMPORTS.contains(found.group(2)));
        }
        DUE.no("a package", Pattern.compile("(?m)^package ").matcher(code).find());
    }

    private static void words(String code) {
        String bare = code.replaceAll("\"[^\"]*\"", "\"\"");
        for (String word : new String[] {"try", "catch", "finally", "synchronized", "assert", "double", "float", "native",
            "volatile", "transient", "strictfp", "protected", "hashCode", "toString", "Object", "HashMap", "Random",
            "Thread", "goto"}) {
            DUE.no(word, Pattern.compile("\\b" + word + "\\b").matcher(bare).find());
        }
        DUE.no("a lambda", bare.contains("->"));
        DUE.no("a method reference", bare.contains("::"));
        DUE.no("a static initialiser", Pattern.compile("\\bstatic\\s*\\{").matcher(bare).find());
        DUE.no("a loop without an end", Pattern.compile("while\\s*\\(\\s*true|for\\s*\\([^;]*;\\s*;").matcher(bare).find());
        DUE.no("rows of rows of rows", bare.contains("[][][]"));
    }

    private static void thrown(String code) {
        Matcher found = Pattern.compile("\\bthrow\\b\\s*(new (\\w+)\\((\"[^\"]*\")?\\);)?").matcher(code);
        int many = 0;
        while (found.find()) {
            DUE.yes("throw " + found.group(1), found.group(1) != null && THROWN.contains(found.group(2)));
            many++;
        }
        DUE.yes("part, group and row throw", many >= 3);
    }

    private static void library(String code) {
        Matcher found = Pattern.compile("\\b(Math|Integer|Long|Arrays|System|String|List)\\.\\w+").matcher(code);
        while (found.find()) {
            boolean isImport = code.startsWith("java.util.", Math.max(0, found.start() - 10));
            DUE.yes(found.group(), isImport || LIBRARY.contains(found.group()));
        }
    }

    /** A method's lines, and that none takes more than seven numbers. */
    private static void methods(String code) {
        Pattern head = Pattern.compile("^ +(?!return|new|else|throw)[\\w<>\\[\\] ]+ (\\w+)\\(([^()]*)\\)[\\w ]*\\{$");
        String[] lines = code.split("\n");
        int many = 0;
        for (int n = 0; n < lines.length; n++) {
            Matcher found = head.matcher(lines[n]);
            if (found.find() && !lines[n].matches(".*\\b(if|for|while|switch)\\b.*")) {
                String close = lines[n].replaceAll("\\S.*", "") + "}";
                int end = n;
                while (end < lines.length && !lines[end].equals(close)) {
                    end++;
                }
                DUE.yes(found.group(1) + " has " + (end - n + 1) + " lines", end - n < MOST_LINES);
                DUE.yes(found.group(1) + " takes at most seven", found.group(2).split(",").length <= 7);
                many++;
            }
        }
        DUE.yes("methods found: " + many, many > 80);
    }
}
