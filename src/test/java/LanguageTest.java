import java.io.PrintWriter;
import java.io.StringWriter;
import java.nio.file.Files;
import java.nio.file.Path;
import java.util.ArrayList;
import java.util.List;
import java.util.Optional;
import java.util.Set;
import java.util.regex.Matcher;
import java.util.regex.Pattern;
import java.util.spi.ToolProvider;

/** What of LANGUAGE.md can be looked up in the text and in the compiled classes. */
public final class LanguageTest {
    private static final Path SOURCE = Path.of("src/main/java/FareLimits.java");
    private static final String[] NOT_WRITTEN = {"->", "::", "Exact", "throw", "catch", "synchronized", "assert",
        "Double.", "Float.", "Long.", "Integer.M", "System.out", "instanceof", "NaN", "static {", "var ", "package "};
    private static final Set<String> LIBRARY = Set.of("java/lang/Object.\"<init>\":()V",
        "java/lang/Enum.\"<init>\":(Ljava/lang/String;I)V",
        "java/lang/Enum.valueOf:(Ljava/lang/Class;Ljava/lang/String;)Ljava/lang/Enum;",
        "java/util/Arrays.fill:([II)V", "java/util/Arrays.fill:([JJ)V", "java/util/Arrays.fill:([DD)V",
        "java/lang/System.arraycopy:(Ljava/lang/Object;ILjava/lang/Object;II)V",
        "java/lang/Math.max:(II)I", "java/lang/Math.min:(II)I",
        "java/lang/StringBuilder.\"<init>\":()V", "java/lang/StringBuilder.length:()I",
        "java/lang/StringBuilder.setLength:(I)V", "java/lang/StringBuilder.charAt:(I)C",
        "java/lang/StringBuilder.append:(C)Ljava/lang/StringBuilder;",
        "java/lang/StringBuilder.append:(I)Ljava/lang/StringBuilder;");

    public static void main(String[] args) throws Exception {
        List<String> lines = Files.readAllLines(SOURCE);
        text(lines);
        lengths(lines);
        compiled();
        Due.end("LanguageTest");
    }

    private static void text(List<String> lines) {
        boolean inComment = false;
        for (int i = 0; i < lines.size(); i++) {
            String line = lines.get(i);
            inComment = inComment || line.trim().startsWith("/*");
            String code = inComment ? "" : line.replaceAll("//.*", "");
            inComment = inComment && !line.contains("*/");
            for (String word : NOT_WRITTEN) {
                Due.holds("line " + (i + 1) + " is without " + word, !code.contains(word));
            }
            if (code.startsWith("import")) {
                Due.same("import", code, "import java.util.Arrays;");
            }
            Due.holds("line " + (i + 1) + " is short and of signs up to 126",
                line.length() <= 120 && line.chars().allMatch(c -> c >= 32 && c < 127));
        }
    }

    /** A method begins and ends at the same depth, by the way this file is written. */
    private static void lengths(List<String> lines) {
        for (String depth : new String[] {"    ", "        "}) {
            int start = -1;
            for (int i = 0; i < lines.size(); i++) {
                String line = lines.get(i);
                boolean isAtDepth = line.startsWith(depth) && line.length() > depth.length()
                    && line.charAt(depth.length()) != ' ';
                if (isAtDepth && line.endsWith(") {") && !line.contains(" class ")) {
                    start = i;
                }
                if (start >= 0 && line.equals(depth + "}")) {
                    Due.holds("the method at line " + (start + 1) + " has sixty lines at most", i - start <= 60);
                    start = -1;
                }
            }
        }
    }

    private static void compiled() throws Exception {
        Optional<ToolProvider> javap = ToolProvider.findFirst("javap");
        if (javap.isEmpty()) {
            System.out.println("there is no javap here: the compiled classes are not looked at");
            return;
        }
        Path folder = Path.of(FareLimits.class.getProtectionDomain().getCodeSource().getLocation().toURI());
        List<String> asked = new ArrayList<>(List.of("-p", "-c"));
        try (var files = Files.list(folder)) {
            files.filter(f -> f.getFileName().toString().matches("FareLimits(\\$.*)?\\.class"))
                .forEach(f -> asked.add(f.toString()));
        }
        StringWriter written = new StringWriter();
        javap.get().run(new PrintWriter(written), new PrintWriter(System.err), asked.toArray(new String[0]));
        Matcher calls = Pattern.compile("// (?:Interface)?Method (java[^\\s]*)").matcher(written.toString());
        int found = 0;
        while (calls.find()) {
            found++;
            Due.holds("of the library: " + calls.group(1), LIBRARY.contains(calls.group(1)));
        }
        Due.holds("calls of the library were found", found > 20);
        for (String code : new String[] {"invokedynamic", "athrow", "monitorenter", "drem", "frem", "checkcast"}) {
            String where = written.toString().replaceAll("checkcast .*(\\[LFareLimits|FareLimits)\\$Kind.*", "");
            Due.holds("no " + code, !where.contains(" " + code));
        }
    }
}
