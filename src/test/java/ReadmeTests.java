import java.io.ByteArrayOutputStream;
import java.io.File;
import java.io.PrintStream;
import java.lang.reflect.Method;
import java.lang.reflect.Modifier;
import java.net.URL;
import java.net.URLClassLoader;
import java.nio.file.Files;
import java.nio.file.Path;
import java.util.ArrayList;
import java.util.Arrays;
import java.util.List;
import java.util.TreeSet;
import java.util.regex.Matcher;
import java.util.regex.Pattern;
import java.util.stream.Stream;

/**
 * README.md: its programs print what stands below them, each call of its examples answers what stands behind the two
 * strokes, each call of the class is in its tables and in an example, and each test of the project is named.
 */
public final class ReadmeTests {
    private static final String NUMBER = "-?\\d+|NONE|BAD|STATE|FULL|NO";
    private static final Pattern ANSWERED = Pattern.compile("\\s*x\\.(\\w+)\\((.*)\\); +// (" + NUMBER + ")(:.*|,|;.*)?");
    private static final Pattern TABLE_CALL = Pattern.compile("\\| `(\\w+)\\(([^)]*)\\)` \\|.*");
    private static int wrong = 0;
    private static int answers = 0;

    private record Block(String language, int line, List<String> lines) {
        boolean isProgram() {
            return language.equals("java") && text().contains("static void main(");
        }

        boolean isExample() {
            return language.equals("java") && !isProgram();
        }

        String text() {
            return String.join("\n", lines) + "\n";
        }
    }

    public static void main(String[] args) throws Exception {
        List<String> page = Files.readAllLines(Path.of("README.md"));
        List<Block> blocks = blocksOf(page);
        TreeSet<String> shown = new TreeSet<>();
        Path room = Files.createTempDirectory("readme");
        try {
            programs(blocks, room);
            examples(blocks, room, shown);
        } finally {
            remove(room);
        }
        everyCall(page, shown);
        everyRefusal(String.join("\n", page));
        firstRefusals(page);
        everyTest(String.join("\n", page));
        System.out.println(wrong == 0 ? "README.md shows " + answers + " answers as they are" : wrong + " things in README.md are not so");
        if (wrong != 0) System.exit(1);
    }

    private static void so(String what, boolean holds) {
        if (holds) return;
        wrong++;
        System.out.println(what);
    }

    private static List<Block> blocksOf(List<String> page) {
        List<Block> blocks = new ArrayList<>();
        Block open = null;
        for (int i = 0; i < page.size(); i++) {
            String line = page.get(i);
            if (open == null && line.startsWith("```")) {
                open = new Block(line.substring(3), i + 1, new ArrayList<>());
                blocks.add(open);
            } else if (line.startsWith("```")) {
                open = null;
            } else if (open != null) {
                open.lines.add(line);
            }
        }
        so("a block has no end", open == null);
        return blocks;
    }

    private static void remove(Path room) throws Exception {
        try (Stream<Path> files = Files.walk(room)) {
            List<Path> all = new ArrayList<>(files.toList());
            for (int i = all.size() - 1; i >= 0; i--) Files.delete(all.get(i));
        }
    }

    /** What the class's main prints, the source compiled with the FastClock that this test runs with; null: it can't be compiled. */
    private static String printed(Path room, String name, String source) throws Exception {
        Path file = room.resolve(name + ".java");
        Files.writeString(file, source);
        String classes = System.getProperty("java.class.path");
        ProcessBuilder javac = new ProcessBuilder("javac", "-encoding", "UTF-8", "-d", room.toString(), "-cp", classes, file.toString());
        if (javac.inheritIO().start().waitFor() != 0) return null;
        PrintStream before = System.out;
        ByteArrayOutputStream bytes = new ByteArrayOutputStream();
        try (URLClassLoader loader = new URLClassLoader(new URL[] {new File(room.toString()).toURI().toURL()})) {
            System.setOut(new PrintStream(bytes, true));
            loader.loadClass(name).getMethod("main", String[].class).invoke(null, (Object) new String[0]);
        } finally {
            System.setOut(before);
        }
        return bytes.toString().replace("\r", "");
    }

    // ---- programs

    private static void programs(List<Block> blocks, Path room) throws Exception {
        int programs = 0;
        Block program = null;
        for (Block block : blocks) {
            if (block.isProgram()) {
                so("no text tells what a program ahead of line " + block.line + " prints", program == null);
                program = block;
            } else if (program != null && block.language.equals("text")) {
                Matcher name = Pattern.compile("class (\\w+)").matcher(program.text());
                so("the program has no name", name.find());
                String printed = printed(room, name.group(1), program.text());
                so("the program in line " + program.line + " prints\n" + printed, block.text().equals(printed));
                answers += block.lines.size();
                programs++;
                program = null;
            }
        }
        so("a program without what it prints", program == null);
        so("README.md shows no program", programs > 0);
    }

    // ---- examples

    private static void examples(List<Block> blocks, Path room, TreeSet<String> shown) throws Exception {
        StringBuilder source = new StringBuilder("public final class Examples {\n");
        for (String name : "NONE BAD STATE FULL".split(" ")) source.append("static final int " + name + " = FastClock." + name + ";\n");
        source.append("static final long NO = FastClock.NO;\n");
        source.append("static void due(int line, String call, long got, long due) {\n");
        source.append("if (got != due) System.out.println(\"line \" + line + \": \" + call + \" answers \" + got);\n}\n");
        StringBuilder calls = new StringBuilder("public static void main(String[] args) {\n");
        for (Block block : blocks) {
            if (!block.isExample()) continue;
            source.append("static void example" + block.line + "() {\n");
            calls.append("example" + block.line + "();\n");
            for (int i = 0; i < block.lines.size(); i++) source.append(lineOf(block.lines.get(i), block.line + 1 + i, shown)).append('\n');
            source.append("}\n");
        }
        String printed = printed(room, "Examples", source.append(calls).append("}\n}\n").toString());
        so("the examples can't be compiled", printed != null);
        so(printed, printed == null || printed.isEmpty());
    }

    private static String lineOf(String line, int number, TreeSet<String> shown) {
        Matcher call = ANSWERED.matcher(line);
        if (call.matches()) {
            answers++;
            shown.add(call.group(1));
            String text = "x." + call.group(1) + "(" + call.group(2) + ")";
            return "due(" + number + ", \"" + text + "\", " + text + ", " + call.group(3) + ");";
        }
        boolean feeds = line.startsWith("for (") && line.endsWith("x.feed(text.charAt(i));");
        so("line " + number + " doesn't tell what the call answers: " + line, feeds || !line.contains("x."));
        return line;
    }

    // ---- is all told?

    private static void everyCall(List<String> page, TreeSet<String> shown) {
        TreeSet<String> due = new TreeSet<>();
        for (Method method : FastClock.class.getDeclaredMethods()) {
            if (!Modifier.isPublic(method.getModifiers())) continue;
            due.add(method.getName() + " " + method.getParameterCount());
            so("no example shows " + method.getName(), shown.contains(method.getName()));
        }
        TreeSet<String> told = new TreeSet<>();
        for (String line : page) {
            Matcher call = TABLE_CALL.matcher(line);
            if (!call.matches()) continue;
            int given = call.group(2).isEmpty() ? 0 : call.group(2).split(",").length;
            so("told twice: " + call.group(1), told.add(call.group(1) + " " + given));
        }
        so("the tables tell " + told + ", the class has " + due, told.equals(due));
    }

    /** The refusal that a table names first is what a number answers that is far from all that there is. */
    private static void firstRefusals(List<String> page) throws Exception {
        FastClock x = new FastClock();
        int looked = 0;
        for (String line : page) {
            Matcher call = TABLE_CALL.matcher(line);
            if (!call.matches() || call.group(2).isEmpty()) continue;
            String[] cells = line.split("\\|");
            String refusals = cells.length < 4 ? "" : cells[3].trim();
            for (Method method : FastClock.class.getDeclaredMethods()) {
                if (!method.getName().equals(call.group(1))) continue;
                Object[] given = new Object[method.getParameterCount()];
                Arrays.fill(given, 1000);
                long got = ((Number) method.invoke(x, given)).longValue();
                so(method.getName() + " answers " + got + " to 1000", got == firstOf(refusals));
                looked++;
            }
        }
        so("too few refusals are told", looked >= 30);
    }

    private static long firstOf(String refusals) {
        String first = refusals.split("[^A-Z0-9]")[0];
        switch (first) {
            case "NONE": return refusals.endsWith("far") ? -10001 : FastClock.NONE;
            case "BAD": return FastClock.BAD;
            case "NO": return FastClock.NO;
            case "0": return 0;
            default: return Integer.MIN_VALUE;
        }
    }

    private static void everyRefusal(String page) {
        so("NONE", page.contains("`NONE` = " + FastClock.NONE + " | -10001 |"));
        so("BAD", page.contains("`BAD` = " + FastClock.BAD + " | -10002 |"));
        so("STATE", page.contains("`STATE` = " + FastClock.STATE + " | -10003 |"));
        so("FULL", page.contains("`FULL` = " + FastClock.FULL + " | |"));
        so("NO", page.contains("`NO` = `Long.MIN_VALUE`") && FastClock.NO == Long.MIN_VALUE);
    }

    private static void everyTest(String page) {
        String[] names = new File("src/test/java").list();
        so("no tests", names != null && names.length > 0);
        if (names == null) return;
        for (String name : names) so("README.md doesn't name " + name, page.contains("`" + name.replace(".java", "") + "`"));
    }
}
