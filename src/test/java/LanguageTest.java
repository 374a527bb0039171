import java.io.DataInputStream;
import java.io.IOException;
import java.lang.management.ManagementFactory;
import java.lang.reflect.Field;
import java.lang.reflect.Method;
import java.lang.reflect.Modifier;
import java.nio.file.Files;
import java.nio.file.Path;
import java.util.ArrayList;
import java.util.LinkedHashMap;
import java.util.List;
import java.util.Map;
import java.util.Set;
import java.util.TreeSet;
import java.util.regex.Matcher;
import java.util.regex.Pattern;

/** The class keeps to ../shared/LANGUAGE.md, as far as that can be told from its source and from what is compiled. */
public final class LanguageTest extends Checks {
    private static final Path SOURCE = Path.of("src/main/java/SplashPages.java");
    private static final String EXCEPTIONS = "IllegalState|IllegalArgument|IndexOutOfBounds|Arithmetic"
        + "|UnsupportedOperation|NoSuchElement|Runtime";
    private static final Pattern THROW = Pattern.compile("throw new (" + EXCEPTIONS + ")Exception\\((\"[^\"]*\")?\\);");
    private static final Pattern HEAD =
        Pattern.compile("^( +)(?:public |private )?(?:static |final )*[\\w\\[\\]<>]+ (\\w+)\\([^;=]*(?:\\{|\\)|,)?$");
    private static final Pattern CALL = Pattern.compile("\\b(\\w+)\\(");

    // What rule 4 lists, as a compiled class names it: owner.name, and behind it the types of a call.
    private static final Pattern LIBRARY = Pattern.compile("java/lang/Object\\.<init>\\(\\)V"
        + "|java/(lang|util)/(" + EXCEPTIONS + ")Exception\\.<init>.*"
        + "|java/lang/(Math|Integer|Long)\\.(?!\\w*Exact\\()[a-z]\\w*\\([IJ]*\\)[IJZ]"
        + "|java/lang/Integer\\.valueOf\\(I\\)Ljava/lang/Integer;"
        + "|java/lang/System\\.arraycopy.*"
        + "|java/util/Arrays\\.(copyOf|copyOfRange|fill)\\(\\[[IJSBCZDF].*"
        + "|java/lang/String\\.(length|charAt|isEmpty|equals|indexOf|substring|toCharArray|<init>)\\(.*"
        + "|java/lang/StringBuilder\\.(<init>|append|charAt|setCharAt|setLength|deleteCharAt|reverse|length|toString)\\(.*"
        + "|java/util/(ArrayList|List)\\.(<init>|add|get|set|remove|size|isEmpty|clear|of|iterator)\\(.*"
        + "|java/util/Iterator\\.(hasNext|next)\\(.*"
        + "|\\[[^.]*\\.clone\\(\\).*"
        + "|SplashPages(\\$\\w+)?\\..*");
    private static final int INVOKE_DYNAMIC = 18;

    private final String source;
    private final List<Class<?>> classes = new ArrayList<>();

    private LanguageTest() throws IOException {
        source = Files.readString(SOURCE);
        classes.add(SplashPages.class);
        classes.addAll(List.of(SplashPages.class.getDeclaredClasses()));
    }

    public static void main(String[] args) throws IOException {
        LanguageTest test = new LanguageTest();
        test.oneFileWithoutAPackage();
        test.typesOfFields();
        test.libraryByWhatIsCompiled();
        test.staticFieldsAreFinal();
        test.exceptionsAreThrownByThrow();
        test.sizesOfMethodsAndClasses();
        test.callsGoAtMostEightDeep();
        test.callsMakeNoObjects();
        test.end();
    }

    private void dueYes(String what, boolean holds) {
        due(what, holds ? 1 : 0, 1);
    }

    private void oneFileWithoutAPackage() {
        sentence("the program is one file without a package line");
        dueYes("no package", SplashPages.class.getPackageName().isEmpty());
        dueYes("no package line", !source.startsWith("package ") && !source.contains("\npackage "));
        sentence("rule 13: no clock, no randomness, no file, network, thread or environment; rule 6: no synchronized");
        for (String word : new String[] {"synchronized", "volatile", "native", "finally", "assert", "instanceof"}) {
            dueYes(word, !Pattern.compile("(?m)^[^/*]*\\b" + word + "\\b").matcher(source).find());
        }
    }

    private void typesOfFields() {
        sentence("rule 3: numbers, arrays of these and of your own classes, your own classes, String, ArrayList");
        Pattern types = Pattern.compile("(int|long|short|byte|char|boolean|double|float)(\\[\\]){0,2}"
            + "|SplashPages\\.\\w+(\\[\\])?|java\\.lang\\.String(\\[\\])?|java\\.util\\.(ArrayList|List)");
        for (Class<?> its : classes) {
            for (Field field : its.getDeclaredFields()) {
                dueYes(field.toString(), types.matcher(field.getType().getCanonicalName()).matches());
            }
        }
    }

    /** No lambda, method reference or text joined by + either: each of them is compiled to an invokedynamic. */
    private void libraryByWhatIsCompiled() throws IOException {
        sentence("rule 4: the library: only what stands here");
        for (Class<?> its : classes) {
            for (String used : usedBy(its)) {
                dueYes(its.getName() + " uses " + used, LIBRARY.matcher(used).matches());
            }
        }
    }

    /** The methods and fields that a compiled class names, with their types, by its constant pool. */
    private static Set<String> usedBy(Class<?> its) throws IOException {
        Set<String> used = new TreeSet<>();
        try (DataInputStream in = new DataInputStream(its.getResourceAsStream(its.getName() + ".class"))) {
            in.readLong();
            int size = in.readUnsignedShort();
            String[] texts = new String[size];
            int[][] pairs = new int[size][];
            List<int[]> members = new ArrayList<>();
            for (int i = 1; i < size; i++) {
                int tag = in.readUnsignedByte();
                switch (tag) {
                    case 1 -> texts[i] = in.readUTF();
                    case 3, 4 -> in.readInt();
                    case 5, 6 -> {
                        in.readLong();
                        i++;
                    }
                    case 15 -> in.skipBytes(3);
                    case 7, 8, 16, 19, 20 -> pairs[i] = new int[] {in.readUnsignedShort(), 0};
                    default -> {
                        pairs[i] = new int[] {in.readUnsignedShort(), in.readUnsignedShort()};
                        if (tag >= 9 && tag <= 11) {
                            members.add(pairs[i]);
                        } else if (tag == INVOKE_DYNAMIC) {
                            used.add("an invokedynamic");
                        }
                    }
                }
            }
            for (int[] member : members) {
                int[] nameAndType = pairs[member[1]];
                used.add(texts[pairs[member[0]][0]] + "." + texts[nameAndType[0]] + texts[nameAndType[1]]);
            }
        }
        return used;
    }

    private void staticFieldsAreFinal() {
        sentence("rule 5: static fields are final");
        for (Class<?> its : classes) {
            for (Field field : its.getDeclaredFields()) {
                dueYes(field.toString(),
                        !Modifier.isStatic(field.getModifiers()) || Modifier.isFinal(field.getModifiers()));
            }
        }
    }

    private void exceptionsAreThrownByThrow() {
        sentence("rule 6: throw new E() or throw new E(\"a written text\")");
        Matcher thrown = Pattern.compile("(?m)^\\s*(throw\\b.*)$").matcher(source);
        while (thrown.find()) {
            dueYes(thrown.group(1), THROW.matcher(thrown.group(1)).matches());
        }
        sentence("do not answer a call by catching what the machine throws");
        dueYes("no catch", !Pattern.compile("\\bcatch\\s*\\(").matcher(source).find());
    }

    private void sizesOfMethodsAndClasses() {
        sentence("rule 11: at most seven parameters, some sixty lines a method, twelve classes, twenty fields a class");
        dueYes("twelve classes", classes.size() <= 12);
        for (Class<?> its : classes) {
            int fields = 0;
            for (Field field : its.getDeclaredFields()) {
                fields += Modifier.isStatic(field.getModifiers()) ? 0 : 1;
            }
            dueYes("fields of " + its, fields <= 20);
            for (Method method : its.getDeclaredMethods()) {
                dueYes("parameters of " + method, method.getParameterCount() <= 7);
            }
        }
        for (Map.Entry<String, List<String>> method : methods().entrySet()) {
            dueYes("lines of " + method.getKey(), method.getValue().size() <= 60);
        }
    }

    /** The lines of each method by its name; those of two with one name stand behind one another. */
    private Map<String, List<String>> methods() {
        Map<String, List<String>> methods = new LinkedHashMap<>();
        String margin = null;
        List<String> body = null;
        for (String line : source.split("\n")) {
            Matcher head = HEAD.matcher(line);
            if (body != null) {
                body.add(line);
                body = line.equals(margin + "}") ? null : body;
            } else if (head.matches() && head.group(1).length() <= 8) {
                margin = head.group(1);
                body = methods.computeIfAbsent(head.group(2), name -> new ArrayList<>());
            }
        }
        return methods;
    }

    private void callsGoAtMostEightDeep() {
        sentence("rule 11: calls that are no recursion go at most eight deep");
        Map<String, List<String>> methods = methods();
        for (Class<?> its : classes) {
            for (Method method : its.getDeclaredMethods()) {
                dueYes(method + " is found in the source", methods.containsKey(method.getName()));
            }
        }
        for (String name : methods.keySet()) {
            dueYes("calls from " + name, depth(name, methods, 0) <= 8);
        }
    }

    // A method that calls itself goes on to the bound, so that recursion would be told as well.
    private static int depth(String name, Map<String, List<String>> methods, int above) {
        int deepest = above + 1;
        if (deepest > 8) {
            return deepest;
        }
        for (String line : methods.get(name)) {
            Matcher call = CALL.matcher(line);
            while (call.find()) {
                if (methods.containsKey(call.group(1))) {
                    deepest = Math.max(deepest, depth(call.group(1), methods, above + 1));
                }
            }
        }
        return deepest;
    }

    /** All calls live in one room: what 512 calls make is told by the bytes that this thread takes for them. */
    private void callsMakeNoObjects() {
        sentence("rule 12: what a run makes is counted");
        // Another machine than HotSpot may not count the bytes.
        if (!(ManagementFactory.getThreadMXBean() instanceof com.sun.management.ThreadMXBean threads)) {
            return;
        }
        long worker = Thread.currentThread().getId();
        threads.getThreadAllocatedBytes(worker);
        SplashPages warm = new SplashPages();
        callAll(warm);
        SplashPages pages = new SplashPages();
        long before = threads.getThreadAllocatedBytes(worker);
        callAll(pages);
        long taken = threads.getThreadAllocatedBytes(worker) - before;
        dueYes("512 calls took " + taken + " bytes", taken < 512);
    }

    private static void callAll(SplashPages pages) {
        for (int i = 0; i < 24; i++) {
            pages.put(i / 2, i % 4, 1 + i % 6, 1 + i % 9);
        }
        for (int i = 0; i < 60; i++) {
            pages.append((i & 1) == 0 ? 's' : '1' + i % 9);
        }
        pages.firstError();
        pages.story();
        pages.clearBuffer();
        for (int i = 0; i < 100; i++) {
            pages.change(i % 24, 1 + i % 6, 1 + i % 9);
            pages.set(9 + i % 52);
            pages.digest();
            pages.undo();
        }
        pages.take(0);
        for (int i = 0; i < 24; i++) {
            pages.count(i % 9);
        }
    }
}
