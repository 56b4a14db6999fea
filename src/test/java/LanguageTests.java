import java.io.IOException;
import java.lang.reflect.Field;
import java.lang.reflect.Method;
import java.lang.reflect.Modifier;
import java.nio.file.Files;
import java.nio.file.Path;
import java.util.ArrayList;
import java.util.Arrays;
import java.util.List;
import java.util.Set;
import java.util.TreeSet;
import java.util.regex.Matcher;
import java.util.regex.Pattern;

/** The rules of LANGUAGE.md that can be seen in the source or in the compiled classes. */
public final class LanguageTests {
    private static final String FACE = "feed(int,int,int,int,int):int end(int):boolean network():int fault():int "
            + "point(int,int):int link(int,int):int slack(int):int odd(int,int):int now(int):int pair(int,int):int "
            + "part(int):int weigh(int,int,int):int price(int,int):int crown(int,int):int open(int):int grow(int):int "
            + "growAt(int):int turn():int flower(int):int flowerAt(int):int shrink():int undo():int proof():int "
            + "proofAt():int proofBy():int room(int):int best():int bestOf(int):int next():int heavy(int):int "
            + "ways(int):int gain():int who():int ask():int mean(int):int tag(int):int byteAt(int):int "
            + "drawn(int,int):int odds(int,int,int):int book(int):int told(int):int sentence():int said(int):int "
            + "image(int):boolean restore(int):boolean count(int):int";

    public static void main(String[] args) throws IOException {
        Path home = Path.of(System.getProperty("project.home", "."));
        String source = Files.readString(home.resolve("src/main/java/HeavyPairs.java"));
        face();
        classes();
        String code = bare(source);
        wordsNotAllowed(code);
        thrown(code);
        madeInMethods(code);
        methodLengths(code);
        roomOfOneObject();
        TestKit.finish("LanguageTests");
    }

    private static void rule(String what, boolean kept) {
        TestKit.due(what, kept, true);
    }

    private static String signature(Method m) {
        StringBuilder s = new StringBuilder(m.getName()).append('(');
        for (Class<?> c : m.getParameterTypes()) {
            s.append(s.charAt(s.length() - 1) == '(' ? "" : ",").append(c.getName());
        }
        return s.append("):").append(m.getReturnType().getName()).toString();
    }

    private static void face() {
        Set<String> due = new TreeSet<>(Arrays.asList(FACE.split(" ")));
        Set<String> seen = new TreeSet<>();
        for (Method m : HeavyPairs.class.getDeclaredMethods()) {
            if (Modifier.isPublic(m.getModifiers())) {
                seen.add(signature(m));
            } else {
                rule("rule 1: private " + m.getName(), Modifier.isPrivate(m.getModifiers()));
            }
        }
        rule("rule 1: the face is " + seen, seen.equals(due));
        int modifiers = HeavyPairs.class.getModifiers();
        rule("rule 1: public and final", Modifier.isPublic(modifiers) && Modifier.isFinal(modifiers));
        for (Field f : HeavyPairs.class.getDeclaredFields()) {
            boolean constant = f.getName().equals("NONE") && Modifier.isPublic(f.getModifiers());
            rule("rule 1: field " + f.getName(), constant || Modifier.isPrivate(f.getModifiers()));
        }
        rule("rule 1: one constructor", HeavyPairs.class.getDeclaredConstructors().length == 1);
    }

    private static void classes() {
        Set<String> names = new TreeSet<>();
        for (String s : FACE.split(" ")) {
            names.add(s.substring(0, s.indexOf('(')));
        }
        List<Class<?>> all = new ArrayList<>(Arrays.asList(HeavyPairs.class.getDeclaredClasses()));
        rule("rule 11: classes " + all.size(), all.size() + 1 <= 12);
        for (Class<?> c : all) {
            rule("rule 2: static " + c, Modifier.isStatic(c.getModifiers()));
            rule("rule 1: not public " + c, !Modifier.isPublic(c.getModifiers()) && !Modifier.isProtected(c.getModifiers()));
        }
        all.add(HeavyPairs.class);
        for (Class<?> c : all) {
            int fields = 0;
            for (Field f : c.getDeclaredFields()) {
                boolean isStatic = Modifier.isStatic(f.getModifiers());
                fields += isStatic ? 0 : 1;
                rule("rule 5: final " + f, !isStatic || Modifier.isFinal(f.getModifiers()));
            }
            rule("rule 11: fields of " + c + " " + fields, fields <= 20);
            for (Method m : c.getDeclaredMethods()) {
                rule("rule 11: parameters of " + m, m.getParameterCount() <= 7);
                rule("rule 1: name of " + m, c == HeavyPairs.class && Modifier.isPublic(m.getModifiers())
                        || !names.contains(m.getName()));
            }
        }
    }

    /** Without comments and what texts hold. */
    private static String bare(String source) {
        String code = source.replaceAll("(?s)/\\*.*?\\*/", " ").replaceAll("//[^\n]*", " ");
        return code.replaceAll("\"(\\\\.|[^\"\\\\\n])*\"", "\"\"");
    }

    private static void wordsNotAllowed(String code) {
        String[] words = {"->", "::", "finally", "assert", "synchronized", "try", "catch", "instanceof", "var", "native",
            "strictfp", "volatile", "transient", "System.out", "System.err", "System.nano", "System.current", "Thread",
            "Object", "getClass", "Exact", "String.format", "Random", "toString", "hashCode", "yield", "@"};
        for (String word : words) {
            String edge = Character.isLetter(word.charAt(0)) ? "\\b" : "";
            rule("not allowed: " + word, !Pattern.compile(edge + Pattern.quote(word) + edge).matcher(code).find());
        }
        rule("rule 10: texts joined by +", !Pattern.compile("\"\\s*\\+|\\+\\s*\"").matcher(code).find());
        Matcher imports = Pattern.compile("import ([^;]+);").matcher(code);
        int many = 0;
        while (imports.find()) {
            many++;
            rule("import " + imports.group(1), imports.group(1).equals("java.util.NoSuchElementException"));
        }
        rule("one import", many == 1);
        rule("no package line", !code.contains("package "));
        Matcher library = Pattern.compile("\\b([A-Z][a-z]\\w*)\\.(\\w+)\\(").matcher(code);
        Set<String> allowed = Set.of("Math.max", "Math.min", "Math.floorMod", "Integer.bitCount", "System.arraycopy");
        while (library.find()) {
            String call = library.group(1) + "." + library.group(2);
            rule("library " + call, allowed.contains(call));
        }
        rule("rule 9: no endless loop", !Pattern.compile("while\\s*\\(true\\)|for\\s*\\([^;]*;\\s*;").matcher(code).find());
    }

    private static void thrown(String code) {
        Matcher m = Pattern.compile("\\bthrow\\b[^;]*;").matcher(code);
        int many = 0;
        while (m.find()) {
            many++;
            rule(m.group(), m.group().equals("throw new NoSuchElementException();"));
        }
        rule("rule 6: four throws", many == 4);
    }

    /** Objects are made with fields and in constructors alone, so that no run of calls fills the room. */
    private static void madeInMethods(String code) {
        Matcher m = Pattern.compile("(?m)^.*\\bnew\\b.*$").matcher(code);
        while (m.find()) {
            String line = m.group().strip();
            boolean field = line.startsWith("private final ");
            boolean inConstructor = List.of("items = new int[Math.max(0, most)];", "before[i] = new Network();",
                    "pictures[k] = new Picture();").contains(line);
            rule("made in a method: " + line, field || inConstructor || line.equals("throw new NoSuchElementException();"));
        }
    }

    private static void methodLengths(String code) {
        Matcher m = Pattern.compile("(?m)^( {4}| {8})(?!.*\\bclass\\b)[a-zA-Z].*\\) (throws \\w+ )?\\{$").matcher(code);
        int methods = 0;
        while (m.find()) {
            int end = code.indexOf("\n" + m.group(1) + "}", m.start());
            long lines = code.substring(m.start(), end).lines().count() + 1;
            methods++;
            rule("rule 11: " + lines + " lines: " + m.group().strip(), lines <= 60);
        }
        rule("methods were seen", methods > 150);
    }

    /** What a new object holds, counted through its fields. */
    private static void roomOfOneObject() {
        List<Object> open = new ArrayList<>();
        open.add(new HeavyPairs());
        long cells = 0;
        for (int i = 0; i < open.size() && i < 10000; i++) {
            Object at = open.get(i);
            if (at.getClass().isArray()) {
                cells += java.lang.reflect.Array.getLength(at);
                if (at instanceof Object[] items) {
                    open.addAll(Arrays.asList(items));
                }
                continue;
            }
            for (Field f : at.getClass().getDeclaredFields()) {
                if (!Modifier.isStatic(f.getModifiers())) {
                    cells++;
                    f.setAccessible(true);
                    try {
                        if (!f.getType().isPrimitive()) {
                            open.add(f.get(at));
                        }
                    } catch (IllegalAccessException e) {
                        rule("field " + f, false);
                    }
                }
            }
        }
        rule("objects of one: " + open.size(), open.size() < 400);
        rule("fields and elements of one: " + cells, cells < 15000);
        System.out.println("one object: " + open.size() + " objects and arrays, " + cells + " fields and elements");
    }
}
