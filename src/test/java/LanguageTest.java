import java.lang.management.ManagementFactory;
import java.lang.reflect.Array;
import java.lang.reflect.Constructor;
import java.lang.reflect.Field;
import java.lang.reflect.Method;
import java.lang.reflect.Modifier;
import java.nio.file.Files;
import java.nio.file.Path;
import java.util.ArrayDeque;
import java.util.ArrayList;
import java.util.Deque;
import java.util.IdentityHashMap;
import java.util.List;
import java.util.Map;
import java.util.Set;
import java.util.TreeSet;
import java.util.regex.Matcher;
import java.util.regex.Pattern;

/** What of LANGUAGE.md can be looked up in the class and its source, and that no call makes objects. */
public final class LanguageTest {
    private static final String SOURCE = "src/main/java/HeelPost.java";
    private static final String[] FACE = {
        "int row(int,int,int)", "int set(int,int,int)", "int copy(int,int,int,int,int)", "int drop(int)",
        "int feed(int)", "int town()", "int fault()", "int undo()", "int hours(int)", "int post(int,int,int)",
        "int callBack(int)", "int begin(int,int)", "int stay(int,int)", "int person(int,int)", "int letter(int,int)",
        "int lane(int)", "int ahead(int,int)", "int letterAhead(int,int)", "int arrives(int)", "int carriers(int,int)",
        "int bestHour(int,int,int)", "int spots(int,int)", "int cutOff()", "int crew(int,int,int)",
        "int needed(int,int)", "int meet(int,int)", "int answer(int)", "int who(int,int,int,int,int,int)",
        "int missing(int,int,int,int)", "int goals(int,int,int,int)", "int busy(int,int)",
        "long sick(int,int,int,int)", "int drawn(int,int,int)", "int image(int)", "int restore(int)", "int kind(int)",
        "int as(int,int)", "int ask(int,int)", "int trace(int)", "int count(int)", "int status()"};
    private static int wrong = 0;
    private static long sink = 0;

    public static void main(String[] args) throws Exception {
        String bare = withoutCommentsAndTexts(Files.readString(Path.of(SOURCE)));
        theFace();
        theFaceAsTheDocumentShowsIt(bare);
        theClasses();
        theWords(bare);
        theMethods(bare);
        nothingIsMade();
        theRoom();
        System.out.println(wrong == 0 ? "the class keeps to the language" : wrong + " rules are not kept");
        if (wrong != 0) {
            System.exit(1);
        }
    }

    private static void must(boolean holds, String rule) {
        if (!holds) {
            wrong++;
            System.out.println("not kept: " + rule);
        }
    }

    private static void theFace() {
        Set<String> want = new TreeSet<>(List.of(FACE));
        Set<String> got = new TreeSet<>();
        for (Method m : HeelPost.class.getDeclaredMethods()) {
            if (Modifier.isPublic(m.getModifiers())) {
                got.add(m.getReturnType() + " " + m.getName() + parameters(m.getParameterTypes()));
                must(!Modifier.isStatic(m.getModifiers()), "rule 1: " + m + " is static");
            } else {
                must(Modifier.isPrivate(m.getModifiers()), "rule 1: " + m + " can be seen");
            }
        }
        must(got.equals(want), "rule 1: the public methods are " + got);
        Constructor<?>[] made = HeelPost.class.getDeclaredConstructors();
        must(made.length == 1 && made[0].getParameterCount() == 0 && Modifier.isPublic(made[0].getModifiers()),
                "rule 1: the constructor");
        must(Modifier.isFinal(HeelPost.class.getModifiers()), "rule 1: the class is final");
        Set<String> constants = new TreeSet<>();
        for (Field f : HeelPost.class.getDeclaredFields()) {
            if (!Modifier.isPrivate(f.getModifiers())) {
                constants.add(f.getName());
            }
        }
        must(constants.equals(Set.of("NONE", "BAD", "STATE", "FULL")), "rule 1: the constants are " + constants);
    }

    /** Names of numbers do not outlive the compiler, so the heads are looked up in the source. */
    private static void theFaceAsTheDocumentShowsIt(String bare) throws Exception {
        Set<String> lines = new TreeSet<>(bare.lines().map(String::trim).toList());
        must(lines.contains("public final class HeelPost {"), "rule 1: the class");
        for (String head : Checks.faceOfTheDocument()) {
            String written = head.endsWith(");") ? head.substring(0, head.length() - 1) + " {" : head;
            must(lines.contains(written), "rule 1: " + head);
        }
    }

    private static String parameters(Class<?>[] types) {
        StringBuilder text = new StringBuilder("(");
        for (Class<?> t : types) {
            text.append(text.length() > 1 ? "," : "").append(t.getName());
        }
        return text.append(")").toString();
    }

    private static void theClasses() {
        Set<String> taken = new TreeSet<>();
        for (String f : FACE) {
            taken.add(f.replaceAll(".* (\\w+)\\(.*", "$1"));
        }
        List<Class<?>> classes = new ArrayList<>(List.of(HeelPost.class.getDeclaredClasses()));
        must(classes.size() <= 12, "rule 11: classes");
        for (Class<?> c : classes) {
            must(Modifier.isStatic(c.getModifiers()), "rule 2: " + c + " is not static");
            for (Method m : c.getDeclaredMethods()) {
                must(!taken.contains(m.getName()), "rule 1: " + m + " bears a public name");
            }
        }
        classes.add(HeelPost.class);
        for (Class<?> c : classes) {
            int fields = 0;
            for (Field f : c.getDeclaredFields()) {
                boolean isStatic = Modifier.isStatic(f.getModifiers());
                fields += isStatic ? 0 : 1;
                must(!isStatic || Modifier.isFinal(f.getModifiers()), "rule 5: " + f);
                must(!f.getType().isArray() || !f.getType().getName().startsWith("[[L"), "rule 3: " + f);
            }
            must(fields <= 20, "rule 11: fields of " + c);
            for (Method m : c.getDeclaredMethods()) {
                must(m.getParameterCount() <= 7, "rule 11: " + m);
                must(!m.isSynthetic(), "rule 2: " + m);
            }
        }
    }

    private static void theWords(String bare) {
        String[] words = {"throw", "throws", "try", "catch", "synchronized", "assert", "import", "package", "while",
            "Object", "hashCode", "toString", "var", "volatile", "native", "strictfp", "double", "float", "protected"};
        for (String word : words) {
            must(!Pattern.compile("\\b" + word + "\\b").matcher(bare).find(), "no " + word + " is needed");
        }
        must(!bare.contains("->") && !bare.contains("::"), "rule 2: no lambda, no method reference");
        must(!Pattern.compile("static\\s*\\{").matcher(bare).find(), "rule 5: no static block");
        Matcher calls = Pattern.compile("\\b(System|Math|Integer|Long|Arrays|String)\\.(\\w+)").matcher(bare);
        Set<String> library = Set.of("System.arraycopy", "Math.max", "Math.min", "Math.abs", "Integer.bitCount");
        while (calls.find()) {
            must(library.contains(calls.group()), "rule 4: " + calls.group());
        }
        Matcher loops = Pattern.compile("\\bfor \\(([^;:]*);").matcher(bare);
        while (loops.find()) {
            must(loops.group(1).startsWith("int "), "rule 9: each loop counts: " + loops.group());
        }
    }

    private static void theMethods(String bare) {
        String[] lines = bare.split("\n", -1);
        for (int i = 0; i < lines.length; i++) {
            Matcher head = Pattern.compile("^( {4}| {8})(?=\\S)[\\w\\[\\]<> ]+\\(.*\\{$").matcher(lines[i]);
            if (!head.find()) {
                continue;
            }
            int end = i;
            while (end < lines.length && !lines[end].equals(head.group(1) + "}")) {
                end++;
            }
            must(end - i <= 60, "rule 11: " + lines[i].trim() + " has " + (end - i) + " lines");
        }
    }

    private static String withoutCommentsAndTexts(String source) {
        return source.replaceAll("(?s)/\\*.*?\\*/", "").replaceAll("//[^\n]*", "")
                .replaceAll("\"(\\\\.|[^\"\\\\])*\"", "\"\"").replaceAll("'(\\\\.|[^'\\\\])'", "' '");
    }

    /** All calls of a run live in one room, so what a call makes is never given back: none makes a thing. */
    private static void nothingIsMade() {
        com.sun.management.ThreadMXBean meter = (com.sun.management.ThreadMXBean) ManagementFactory.getThreadMXBean();
        long id = Thread.currentThread().getId();
        HeelPost x = new HeelPost();
        useAll(x);
        long before = meter.getThreadAllocatedBytes(id);
        long between = meter.getThreadAllocatedBytes(id);
        useAll(x);
        long after = meter.getThreadAllocatedBytes(id);
        long made = after - between - (between - before);
        must(made <= 0, "rule 12: the calls made " + made + " bytes");
        must(sink != 1, "never so");
    }

    /** A run may make many objects in a room of 600,000 things, 7.3 million fields and elements: here for 2000. */
    private static void theRoom() throws Exception {
        Map<Object, Boolean> things = new IdentityHashMap<>();
        Deque<Object> left = new ArrayDeque<>(List.of(new HeelPost()));
        int parts = 0;
        while (!left.isEmpty()) {
            Object thing = left.pop();
            if (things.put(thing, true) != null) {
                continue;
            }
            if (thing.getClass().isArray()) {
                parts += Array.getLength(thing);
                for (int i = 0; thing instanceof Object[] && i < Array.getLength(thing); i++) {
                    left.push(Array.get(thing, i));
                }
                continue;
            }
            for (Field f : thing.getClass().getDeclaredFields()) {
                if (!Modifier.isStatic(f.getModifiers())) {
                    parts++;
                    f.setAccessible(true);
                    if (!f.getType().isPrimitive()) {
                        left.push(f.get(thing));
                    }
                }
            }
        }
        System.out.println("an object is " + things.size() + " things of " + parts + " parts");
        must(things.size() <= 300 && parts <= 3650, "the room: an object is too large");
    }

    private static void useAll(HeelPost x) {
        String text = "t5,6;w0,4,1;c4,0,0;d1,3,0;m2,0,0;b0,3,2;";
        for (int i = 0; i < text.length(); i++) {
            sink += x.feed(text.charAt(i));
        }
        sink += x.town() + x.fault() + x.post(0, 0, 4) + x.post(1, 4, 0) + x.hours(2) + x.undo() + x.begin(0, 1);
        sink += x.stay(3, 1) + x.person(0, 3) + x.letter(0, 3) + x.lane(0) + x.ahead(0, 9) + x.letterAhead(0, 99);
        sink += x.arrives(0) + x.carriers(0, 99) + x.bestHour(0, 4, 0) + x.spots(4, 99) + x.cutOff() + x.crew(0, 99, 1);
        sink += x.needed(0, 99) + x.meet(0, 1) + x.answer(0) + x.row(0, 0, 12) + x.row(1, 0, 40) + x.set(0, 1, 5);
        sink += x.copy(0, 0, 1, 0, 12) + x.who(0, 0, 0, 0, 0, 12) + x.who(0, 1, 0, 0, 0, 12) + x.missing(0, 0, 0, 12);
        sink += x.goals(0, 0, 0, 12) + x.busy(99, 0) + x.sick(0, 99, 3, 0) + x.drawn(99, 7, 1) + x.image(0) + x.restore(0);
        sink += x.kind(0) + x.as(1, 2) + x.ask(1, 0) + x.trace(0) + x.count(0) + x.status() + x.drop(0) + x.callBack(0);
    }
}
