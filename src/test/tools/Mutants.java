import java.io.File;
import java.io.IOException;
import java.nio.file.Files;
import java.nio.file.Path;
import java.util.ArrayList;
import java.util.HashSet;
import java.util.List;
import java.util.Set;
import java.util.concurrent.ExecutorService;
import java.util.concurrent.Executors;
import java.util.concurrent.Future;
import java.util.concurrent.TimeUnit;
import java.util.regex.Matcher;
import java.util.regex.Pattern;
import java.util.stream.Stream;
import javax.tools.ToolProvider;

/**
 * Breaks HeavyPairs in one place at a time and looks whether the tests see it; prints each break that none sees.
 * By hand, from the project's directory: java src/test/tools/Mutants.java [test classes, EdgeTextTests .. without].
 * A break that they do not see is run against the plain second model in 4,000 runs: MISSED, if an answer differs
 * there (a test is wanting); else it is told as one that seems to change no answer (a guard that is never needed).
 */
public final class Mutants {
    private static final String[][] SWAPS = {
        {" < ", " <= "}, {" <= ", " < "}, {" > ", " >= "}, {" >= ", " > "}, {" == ", " != "}, {" != ", " == "},
        {" && ", " || "}, {" \\|\\| ", " && "}, {" \\+ 1\\b", ""}, {" - 1\\b", ""}, {" \\+ ", " - "}, {" - ", " + "},
        {" \\| ", " & "}, {" & ", " | "}, {"\\|= ", "&= "}, {"&= ~", "|= "}, {" % ", " / "}, {"\\+\\+", "--"}, {"\\+= ", "-= "},
        {"Math\\.max\\(", "Math.min("}, {"Math\\.min\\(", "Math.max("}, {"return NONE;", "return 0;"}, {"return 0;", "return 1;"},
        {"return true;", "return false;"}, {"return false;", "return true;"}, {"= NONE;", "= 0;"}, {"= 0;", "= 1;"},
        {"!(?=[a-z])", ""}, {" >>> ", " >> "}, {"(?<=[(&| ])~", ""}, {": NONE;", ": 0;"}, {"break;", "continue;"}};
    private static final Path HOME = Path.of("").toAbsolutePath();
    private static final Path SOURCE = HOME.resolve("src/main/java/HeavyPairs.java");
    /** Names that stand for things of one sort, taken for one another. */
    private static final String[][] NAMES = {
        {"p", "q"}, {"from", "to"}, {"first", "second"}, {"at", "began"}, {"tops", "seconds"}, {"rest", "free"}, {"points", "links"},
        {"sets", "links"}, {"turned", "shrunk"}, {"price", "weight"}, {"crowns", "members"}, {"total", "bound"}, {"net", "trial"},
        {"path", "blossom"}, {"saying", "newSaying"}, {"most", "length"}, {"start", "place"}, {"here", "there"}, {"gained", "more"},
        {"heavies", "ways"}, {"letters", "digits"}, {"NONE", "END"}, {"CANNOT_COME", "NOT_AS_TOLD"}, {"WRONG_NAME", "TOO_MANY"},
        {"CANNOT_COME", "WRONG_NAME"}};
    private static String[] tests = {"EdgeTextTests", "EdgeDeedTests", "EdgeAnswerTests", "EdgeBookTests", "FullTests"};
    private static final Set<String> MADE = new HashSet<>();
    private static final String ORACLE = "OracleTests";

    record Mutant(int line, String was, String then, String source) {
    }

    public static void main(String[] args) throws Exception {
        tests = args.length > 0 ? args : tests;
        Path work = Files.createTempDirectory("mutants");
        Path compiled = compileTests(work);
        List<Mutant> all = mutants(Files.readString(SOURCE));
        System.out.println(all.size() + " mutants");
        ExecutorService pool = Executors.newFixedThreadPool(Runtime.getRuntime().availableProcessors());
        List<Future<String>> ends = new ArrayList<>();
        for (int i = 0; i < all.size(); i++) {
            Mutant m = all.get(i);
            Path dir = work.resolve("m" + i);
            ends.add(pool.submit(() -> fateOf(m, dir, compiled)));
        }
        int seen = 0;
        int notJava = 0;
        for (int i = 0; i < all.size(); i++) {
            String fate = ends.get(i).get();
            seen += fate.equals("seen") ? 1 : 0;
            notJava += fate.equals("no Java") ? 1 : 0;
            if (!fate.equals("seen") && !fate.equals("no Java")) {
                System.out.println(fate + ", line " + all.get(i).line + "\n  - " + all.get(i).was.strip() + "\n  + " + all.get(i).then.strip());
            }
        }
        pool.shutdown();
        System.out.println(seen + " seen, " + notJava + " no Java, " + (all.size() - seen - notJava) + " not seen");
        remove(work);
    }

    private static Path compileTests(Path work) throws IOException {
        Path dir = Files.createDirectories(work.resolve("tests"));
        List<String> args = new ArrayList<>(List.of("-nowarn", "-sourcepath", HOME.resolve("src/test/support").toString(),
                "-d", dir.toString(), SOURCE.toString()));
        for (String test : tests) {
            args.add(HOME.resolve("src/test/java/" + test + ".java").toString());
        }
        args.add(HOME.resolve("src/test/java/" + ORACLE + ".java").toString());
        if (ToolProvider.getSystemJavaCompiler().run(null, null, null, args.toArray(new String[0])) != 0) {
            throw new IllegalStateException("the tests do not compile");
        }
        try (Stream<Path> files = Files.list(dir)) {
            for (Path file : files.filter(f -> f.getFileName().toString().startsWith("HeavyPairs")).toList()) {
                Files.delete(file);
            }
        }
        return dir;
    }

    private static List<Mutant> mutants(String source) {
        String[] lines = source.split("\n", -1);
        List<Mutant> all = new ArrayList<>();
        for (int i = 0; i < lines.length; i++) {
            String line = lines[i];
            String bare = line.strip();
            if (bare.startsWith("//") || bare.startsWith("*") || bare.startsWith("/*") || bare.startsWith("import")) {
                continue;
            }
            for (String[] swap : SWAPS) {
                Matcher m = Pattern.compile(swap[0]).matcher(line);
                while (m.find()) {
                    add(all, lines, i, line.substring(0, m.start()) + swap[1] + line.substring(m.end()));
                }
            }
            Matcher number = Pattern.compile("(?<![\\w'\"])\\d+(?![\\w'\"])").matcher(line);
            while (number.find()) {
                long n = Long.parseLong(number.group());
                add(all, lines, i, line.substring(0, number.start()) + (n + 1) + line.substring(number.end()));
                add(all, lines, i, line.substring(0, number.start()) + (n - 1) + line.substring(number.end()));
            }
            breakConditions(all, lines, i);
            breakNames(all, lines, i);
            if (bare.matches("(return|break|continue)\\b.*;") || bare.matches("[a-zA-Z.]+(\\[.*\\])?( [-+|&]?= .*|\\(.*\\)|\\+\\+|--);")) {
                add(all, lines, i, "");
            }
        }
        return all;
    }

    /** A condition that always or never holds, and each && and || without what stands behind it or ahead of it. */
    private static void breakConditions(List<Mutant> all, String[] lines, int i) {
        String line = lines[i];
        Matcher whole = Pattern.compile("^(.*\\bif \\()(.*)(\\) \\{)$").matcher(line);
        if (whole.find()) {
            add(all, lines, i, whole.group(1) + "1 == 1" + whole.group(3));
            add(all, lines, i, whole.group(1) + "1 != 1" + whole.group(3));
        }
        Matcher joint = Pattern.compile(" (&&|\\|\\|) ").matcher(line);
        while (joint.find()) {
            add(all, lines, i, line.substring(0, joint.start()) + line.substring(endOfPart(line, joint.end())));
            add(all, lines, i, line.substring(0, startOfPart(line, joint.start())) + line.substring(joint.end()));
        }
    }

    private static int endOfPart(String line, int from) {
        int open = 0;
        for (int k = from; k < line.length(); k++) {
            char c = line.charAt(k);
            open += c == '(' ? 1 : c == ')' ? -1 : 0;
            if (open < 0 || open == 0 && (c == ';' || line.startsWith(" && ", k) || line.startsWith(" || ", k) || line.startsWith(" ? ", k))) {
                return k;
            }
        }
        return line.length();
    }

    private static int startOfPart(String line, int behind) {
        int open = 0;
        for (int k = behind - 1; k >= 0; k--) {
            char c = line.charAt(k);
            open += c == ')' ? 1 : c == '(' ? -1 : 0;
            String ahead = line.substring(0, k + 1);
            if (open < 0 || open == 0 && (ahead.endsWith("return ") || ahead.endsWith(" && ") || ahead.endsWith(" || ") || ahead.endsWith("; ")
                    || ahead.endsWith(" = "))) {
                return k + 1;
            }
        }
        return 0;
    }

    private static void breakNames(List<Mutant> all, String[] lines, int i) {
        String line = lines[i];
        for (String[] pair : NAMES) {
            for (int way = 0; way < 2; way++) {
                Matcher name = Pattern.compile("(?<![\\w\"'])" + pair[way] + "(?![\\w\"'])").matcher(line);
                while (name.find()) {
                    add(all, lines, i, line.substring(0, name.start()) + pair[1 - way] + line.substring(name.end()));
                }
            }
        }
        Matcher most = Pattern.compile("\\b(MOST|SIZES|KINDS|PLACES|IMAGES|[A-Z]+_BYTES)[A-Z_]*\\b").matcher(line);
        while (most.find() && !line.contains("static final")) {
            add(all, lines, i, line.substring(0, most.start()) + "(" + most.group() + " + 1)" + line.substring(most.end()));
            add(all, lines, i, line.substring(0, most.start()) + "(" + most.group() + " - 1)" + line.substring(most.end()));
        }
        Matcher two = Pattern.compile("\\((\\w+), (\\w+)\\)").matcher(line);
        while (two.find()) {
            add(all, lines, i, line.substring(0, two.start()) + "(" + two.group(2) + ", " + two.group(1) + ")" + line.substring(two.end()));
        }
    }

    private static void add(List<Mutant> all, String[] lines, int i, String then) {
        String was = lines[i];
        if (then.equals(was) || !MADE.add(i + " " + then)) {
            return;
        }
        lines[i] = then;
        all.add(new Mutant(i + 1, was, then, String.join("\n", lines)));
        lines[i] = was;
    }

    private static String fateOf(Mutant mutant, Path dir, Path compiled) throws Exception {
        Files.createDirectories(dir);
        Path file = dir.resolve("HeavyPairs.java");
        Files.writeString(file, mutant.source);
        int failed = ToolProvider.getSystemJavaCompiler().run(null, new java.io.ByteArrayOutputStream(), new java.io.ByteArrayOutputStream(),
                "-nowarn", "-d", dir.toString(), file.toString());
        String fate = failed != 0 ? "no Java" : "not seen";
        for (int i = 0; i < tests.length && fate.equals("not seen"); i++) {
            fate = passes(dir, compiled, tests[i]) ? fate : "seen";
        }
        if (fate.equals("not seen") && !passes(dir, compiled, ORACLE, "4000", "99")) {
            fate = "MISSED";
        }
        remove(dir);
        return fate;
    }

    private static boolean passes(Path dir, Path compiled, String... test) throws Exception {
        List<String> command = new ArrayList<>(List.of("java", "-XX:TieredStopAtLevel=1", "-XX:+UseSerialGC", "-Xmx256m",
                "-Dproject.home=" + HOME, "-cp", dir + File.pathSeparator + compiled));
        command.addAll(List.of(test));
        Process run = new ProcessBuilder(command).redirectErrorStream(true).redirectOutput(ProcessBuilder.Redirect.DISCARD).start();
        if (!run.waitFor(120, TimeUnit.SECONDS)) {
            run.destroyForcibly();
            return false;
        }
        return run.exitValue() == 0;
    }

    private static void remove(Path dir) throws IOException {
        try (Stream<Path> files = Files.walk(dir)) {
            for (Path file : files.sorted(java.util.Comparator.reverseOrder()).toList()) {
                Files.delete(file);
            }
        }
    }
}
