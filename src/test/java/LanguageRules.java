import java.lang.management.ManagementFactory;
import java.lang.reflect.Constructor;
import java.lang.reflect.Field;
import java.lang.reflect.Method;
import java.lang.reflect.Modifier;
import java.nio.file.Files;
import java.nio.file.Path;
import java.util.ArrayList;
import java.util.List;
import java.util.Random;
import java.util.TreeSet;
import java.util.regex.Matcher;
import java.util.regex.Pattern;

/** What of LANGUAGE.md can be looked at from outside: the face, the words of the source, what calls make, that none throws. */
public final class LanguageRules {
    private static int wrong = 0;

    private static void so(String what, boolean holds) {
        if (!holds) {
            wrong++;
            System.out.println(what);
        }
    }

    public static void main(String[] args) throws Exception {
        face();
        source(Files.readString(Path.of("src/main/java/FastClock.java")));
        neverThrows();
        room();
        System.out.println(wrong == 0 ? "the rules are kept" : wrong + " rules are not kept");
        if (wrong != 0) System.exit(1);
    }

    private static final String[] METHODS = {"int feed(int)", "int house()", "int person(int,int)", "int of(int,int)", "int use(int,int)",
        "int believe(int,int)", "int row(int,int,int)", "int set(int,int)", "int hear(int)", "int tell(int,int)", "int told(int)", "int day()",
        "int on(int,int)", "int inTime()", "int worst()", "int order(int)", "int best(int,int,int)", "int rowOf(int,int,int)",
        "int lasts(int,int)", "long mixed(int,int,int,int)", "int goBy(int)", "int call(int)", "int padded(int,int)", "int tellOne()",
        "int known(int)", "int see(int,int)", "int fast(int,int)", "int who(int)", "long odds(int,int)", "long mean(int)",
        "int rule(int,int,int)", "int ruled()", "int book(int,int)", "int looked()", "int act(int,int,int)", "int trace(int)",
        "int as(int,int)", "int image()", "int undo()", "int count(int)"};

    private static void face() {
        TreeSet<String> due = new TreeSet<>(List.of(METHODS));
        TreeSet<String> names = new TreeSet<>();
        for (String method : METHODS) names.add(method.substring(method.indexOf(' ') + 1, method.indexOf('(')));
        TreeSet<String> there = new TreeSet<>();
        for (Method method : FastClock.class.getDeclaredMethods()) {
            if (Modifier.isPrivate(method.getModifiers())) {
                so("a private method bears a public one's name: " + method.getName(), !names.contains(method.getName()));
                continue;
            }
            StringBuilder face = new StringBuilder(method.getReturnType() + " " + method.getName() + "(");
            for (Class<?> type : method.getParameterTypes()) face.append(face.toString().endsWith("(") ? "" : ",").append(type);
            there.add(face.append(')').toString());
            so("public: " + method, Modifier.isPublic(method.getModifiers()) && !Modifier.isStatic(method.getModifiers()));
        }
        so("the methods are " + there, there.equals(due));
        for (Constructor<?> made : FastClock.class.getDeclaredConstructors()) so("" + made, Modifier.isPublic(made.getModifiers()) && made.getParameterCount() == 0);
        int fields = 0;
        for (Field field : FastClock.class.getDeclaredFields()) {
            if (Modifier.isPrivate(field.getModifiers())) continue;
            so("a field: " + field, "NONE BAD STATE FULL NO".contains(field.getName()) && Modifier.isFinal(field.getModifiers()));
            fields++;
        }
        so("five constants", fields == 5);
        so("final", Modifier.isFinal(FastClock.class.getModifiers()));
        Class<?>[] inside = FastClock.class.getDeclaredClasses();
        so("some twelve classes", inside.length <= 11);
        for (Class<?> one : inside) {
            so("static: " + one, Modifier.isStatic(one.getModifiers()) && !Modifier.isPublic(one.getModifiers()) && !Modifier.isProtected(one.getModifiers()));
            for (Method method : one.getDeclaredMethods()) so("a public one's name: " + method, !names.contains(method.getName()) && method.getParameterCount() <= 7);
            int own = 0;
            for (Field field : one.getDeclaredFields()) if (!Modifier.isStatic(field.getModifiers())) own++;
            so("some twenty fields: " + one, own <= 20);
        }
    }

    private static void source(String text) {
        for (int i = 0; i < text.length(); i++) so("a sign beyond 127 at " + i, text.charAt(i) < 128);
        String code = text.replaceAll("(?s)/\\*.*?\\*/", "").replaceAll("//[^\n]*", "").replaceAll("'.'", "' '");
        for (String word : "throw throws try catch finally synchronized assert package protected var record yield Object Exception System.out Random".split(" ")) {
            so("the word " + word, !Pattern.compile("\\b" + Pattern.quote(word) + "\\b").matcher(code).find());
        }
        for (String sign : List.of("->", "::", "Exact(", "float", "double", "while", "@")) so("the sign " + sign, !code.contains(sign));
        TreeSet<String> library = new TreeSet<>(List.of("Math.min", "Math.max", "Math.abs", "Arrays.fill", "System.arraycopy", "Long.MIN_VALUE", "Integer.MAX_VALUE", "Integer.MIN_VALUE"));
        Matcher used = Pattern.compile("\\b(Math|Arrays|System|Long|Integer|String|List|StringBuilder)\\.\\w+").matcher(code.replaceAll("import [^;]*;", ""));
        while (used.find()) so("the library's " + used.group(), library.contains(used.group()));
        for (String line : text.split("\n")) so("a long line: " + line, line.length() <= 140);
        methodsAreShort(text);
    }

    private static void methodsAreShort(String text) {
        String[] lines = text.split("\n");
        int began = -1;
        String indent = "";
        for (int i = 0; i < lines.length; i++) {
            Matcher head = Pattern.compile("^( +)[\\w \\[\\]]*\\w+\\([^;]*\\) \\{$").matcher(lines[i]);
            if (head.matches() && !lines[i].matches(" +(if|for|switch|else|\\}).*")) {
                began = i;
                indent = head.group(1);
            }
            if (began >= 0 && lines[i].equals(indent + "}")) {
                so("a long method at line " + began, i - began <= 60);
                began = -1;
            }
        }
    }

    private static int anyInt(Random random) {
        switch (random.nextInt(6)) {
            case 0: return random.nextInt();
            case 1: return Integer.MIN_VALUE + random.nextInt(3);
            case 2: return Integer.MAX_VALUE - random.nextInt(3);
            case 3: return random.nextInt(21) - 10;
            default: return random.nextInt(7);
        }
    }

    private static void neverThrows() throws Exception {
        Random random = new Random(5);
        List<Method> methods = new ArrayList<>();
        for (Method method : FastClock.class.getDeclaredMethods()) if (Modifier.isPublic(method.getModifiers())) methods.add(method);
        methods.sort((a, b) -> a.getName().compareTo(b.getName()));
        for (int run = 0; run < 300; run++) {
            FastClock clock = new FastClock();
            for (int i = 0; i < 500; i++) {
                Method method = methods.get(random.nextInt(methods.size()));
                Object[] given = new Object[method.getParameterCount()];
                for (int k = 0; k < given.length; k++) given[k] = anyInt(random);
                try {
                    method.invoke(clock, given);
                } catch (java.lang.reflect.InvocationTargetException thrown) {
                    so(method + " threw " + thrown.getCause(), false);
                    return;
                }
            }
        }
    }

    private static void dearCalls(FastClock clock) {
        for (int i = 0; i < 12; i++) {
            clock.best(0, 20, 0);
            clock.rowOf(1, 4, -1);
            clock.call(20);
            clock.lasts(0, i);
            clock.mixed(0, -60, 60, 0);
            clock.fast(0, 0);
            clock.padded(0, 30);
            clock.inTime();
            clock.tellOne();
            clock.known(0);
            clock.odds(0, 0);
            clock.ruled();
            clock.looked();
            clock.image();
            clock.undo();
            clock.act(0, 2, i);
        }
    }

    /** Questions make nothing; houses and people make a little, far from what the room holds. */
    private static void room() {
        com.sun.management.ThreadMXBean threads = (com.sun.management.ThreadMXBean) ManagementFactory.getThreadMXBean();
        long self = Thread.currentThread().getId();
        FastClock clock = new FastClock();
        for (int i = 0; i < 6; i++) clock.person(i + 1, i + 3);
        for (char sign : "late 5;rush 3 p=1|!(k>2&d<4);slow 9 s<3".toCharArray()) clock.feed(sign);
        clock.house();
        dearCalls(clock);
        threads.getThreadAllocatedBytes(self);
        long before = threads.getThreadAllocatedBytes(self);
        dearCalls(clock);
        long asked = threads.getThreadAllocatedBytes(self) - before;
        so("questions make " + asked + " bytes", asked < 2000);
        FastClock other = new FastClock();
        before = threads.getThreadAllocatedBytes(self);
        other.image();
        for (int i = 0; i < 170; i++) {
            other.person(6, 1);
            other.house();
            other.undo();
        }
        long made = threads.getThreadAllocatedBytes(self) - before;
        so("houses and people make " + made + " bytes", made < 1000000);
    }
}
