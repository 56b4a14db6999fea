import java.io.File;
import java.io.IOException;
import java.nio.file.Files;
import java.nio.file.Path;
import java.util.ArrayList;
import java.util.List;
import java.util.concurrent.ExecutorService;
import java.util.concurrent.Executors;
import java.util.concurrent.Future;
import java.util.concurrent.TimeUnit;
import java.util.regex.Matcher;
import java.util.regex.Pattern;
import java.util.stream.Stream;
import javax.tools.ToolProvider;

/**
 * Breaks HeavyPairs in one place at a time and looks whether the tests see it; prints each break that none sees.
 * By hand, from the project's directory: java src/test/tools/Mutants.java [test classes, EdgeTextTests .. without].
 * Breaks that change no answer (a guard that is never needed) are printed, too.
 */
public final class Mutants {
    private static final String[][] SWAPS = {
        {" < ", " <= "}, {" <= ", " < "}, {" > ", " >= "}, {" >= ", " > "}, {" == ", " != "}, {" != ", " == "},
        {" && ", " || "}, {" \\|\\| ", " && "}, {" \\+ 1\\b", ""}, {" - 1\\b", ""}, {" \\+ ", " - "}, {" - ", " + "},
        {" \\| ", " & "}, {" & ", " | "}, {"\\|= ", "&= "}, {"&= ~", "|= "}, {" % ", " / "}, {"\\+\\+", "--"}, {"\\+= ", "-= "},
        {"Math\\.max\\(", "Math.min("}, {"Math\\.min\\(", "Math.max("}, {"return NONE;", "return 0;"}, {"return 0;", "return 1;"},
        {"return true;", "return false;"}, {"return false;", "return true;"}, {"= NONE;", "= 0;"}, {"= 0;", "= 1;"},
        {"!(?=[a-z])", ""}, {" >>> ", " >> "}, {"(?<=[(&| ])~", ""}, {": NONE;", ": 0;"}, {"break;", "continue;"}};
    private static final Path HOME = Path.of("").toAbsolutePath();
    private static final Path SOURCE = HOME.resolve("src/main/java/HeavyPairs.java");
    private static String[] tests = {"EdgeTextTests", "EdgeDeedTests", "EdgeAnswerTests", "EdgeBookTests"};

    record Mutant(int line, String was, String then, String source) {
    }

    public static void main(String[] args) throws Exception {
        tests = args.length > 0 ? args : tests;
        Path work = Files.createTempDirectory("mutants");
        Path compiled = compileTests(work);
        List<Mutant> all = mutants(Files.readString(SOURCE));
        System.out.println(all.size() + " mutants");
        ExecutorService pool = Executors.newFixedThreadPool(Runtime.getRuntime().availableProcessors());
        List<Future<String>> ends = new ArrayList<>();
        for (int i = 0; i < all.size(); i++) {
            Mutant m = all.get(i);
            Path dir = work.resolve("m" + i);
            ends.add(pool.submit(() -> fateOf(m, dir, compiled)));
        }
        int seen = 0;
        int notJava = 0;
        for (int i = 0; i < all.size(); i++) {
            String fate = ends.get(i).get();
            seen += fate.equals("seen") ? 1 : 0;
            notJava += fate.equals("no Java") ? 1 : 0;
            if (fate.equals("not seen")) {
                System.out.println(all.get(i).line + "\n  - " + all.get(i).was.strip() + "\n  + " + all.get(i).then.strip());
            }
        }
        pool.shutdown();
        System.out.println(seen + " seen, " + notJava + " no Java, " + (all.size() - seen - notJava) + " not seen");
        remove(work);
    }

    private static Path compileTests(Path work) throws IOException {
        Path dir = Files.createDirectories(work.resolve("tests"));
        List<String> args = new ArrayList<>(List.of("-nowarn", "-sourcepath", HOME.resolve("src/test/support").toString(),
                "-d", dir.toString(), SOURCE.toString()));
        for (String test : tests) {
            args.add(HOME.resolve("src/test/java/" + test + ".java").toString());
        }
        if (ToolProvider.getSystemJavaCompiler().run(null, null, null, args.toArray(new String[0])) != 0) {
            throw new IllegalStateException("the tests do not compile");
        }
        try (Stream<Path> files = Files.list(dir)) {
            for (Path file : files.filter(f -> f.getFileName().toString().startsWith("HeavyPairs")).toList()) {
                Files.delete(file);
            }
        }
        return dir;
    }

    private static List<Mutant> mutants(String source) {
        String[] lines = source.split("\n", -1);
        List<Mutant> all = new ArrayList<>();
        for (int i = 0; i < lines.length; i++) {
            String line = lines[i];
            String bare = line.strip();
            if (bare.startsWith("//") || bare.startsWith("*") || bare.startsWith("/*") || bare.startsWith("import")) {
                continue;
            }
            for (String[] swap : SWAPS) {
                Matcher m = Pattern.compile(swap[0]).matcher(line);
                while (m.find()) {
                    add(all, lines, i, line.substring(0, m.start()) + swap[1] + line.substring(m.end()));
                }
            }
            Matcher number = Pattern.compile("(?<![\\w'\"])\\d+(?![\\w'\"])").matcher(line);
            while (number.find()) {
                long n = Long.parseLong(number.group());
                add(all, lines, i, line.substring(0, number.start()) + (n + 1) + line.substring(number.end()));
                add(all, lines, i, line.substring(0, number.start()) + (n - 1) + line.substring(number.end()));
            }
            if (bare.matches("[a-zA-Z.]+(\\[.*\\])?( [-+|&]?= .*|\\(.*\\)|\\+\\+|--);")) {
                add(all, lines, i, "");
            }
        }
        return all;
    }

    private static void add(List<Mutant> all, String[] lines, int i, String then) {
        String was = lines[i];
        lines[i] = then;
        all.add(new Mutant(i + 1, was, then, String.join("\n", lines)));
        lines[i] = was;
    }

    private static String fateOf(Mutant mutant, Path dir, Path compiled) throws Exception {
        Files.createDirectories(dir);
        Path file = dir.resolve("HeavyPairs.java");
        Files.writeString(file, mutant.source);
        int failed = ToolProvider.getSystemJavaCompiler().run(null, new java.io.ByteArrayOutputStream(), new java.io.ByteArrayOutputStream(),
                "-nowarn", "-d", dir.toString(), file.toString());
        String fate = failed != 0 ? "no Java" : "not seen";
        for (int i = 0; i < tests.length && fate.equals("not seen"); i++) {
            fate = passes(tests[i], dir, compiled) ? fate : "seen";
        }
        remove(dir);
        return fate;
    }

    private static boolean passes(String test, Path dir, Path compiled) throws Exception {
        Process run = new ProcessBuilder("java", "-XX:TieredStopAtLevel=1", "-XX:+UseSerialGC", "-Xmx256m", "-Dproject.home=" + HOME,
                "-cp", dir + File.pathSeparator + compiled, test)
                .redirectErrorStream(true).redirectOutput(ProcessBuilder.Redirect.DISCARD).start();
        if (!run.waitFor(60, TimeUnit.SECONDS)) {
            run.destroyForcibly();
            return false;
        }
        return run.exitValue() == 0;
    }

    private static void remove(Path dir) throws IOException {
        try (Stream<Path> files = Files.walk(dir)) {
            for (Path file : files.sorted(java.util.Comparator.reverseOrder()).toList()) {
                Files.delete(file);
            }
        }
    }
}
