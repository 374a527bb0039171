import java.lang.reflect.Constructor;
import java.lang.reflect.Field;
import java.lang.reflect.Method;
import java.lang.reflect.Modifier;
import java.util.Arrays;
import java.util.Set;
import java.util.TreeSet;

/** The face of the class is the document's, and nothing else of it can be seen (rule 1 of the language). */
public final class FaceTest {
    private static final String[] DUE = {
        "public static final int SplashPages.NONE",
        "public SplashPages()",
        "public int SplashPages.put(int,int,int,int) throws java.lang.IndexOutOfBoundsException,"
            + "java.lang.IllegalArgumentException,java.lang.IllegalStateException",
        "public int SplashPages.take(int) throws java.lang.IndexOutOfBoundsException",
        "public int SplashPages.change(int,int,int) throws java.lang.IndexOutOfBoundsException,"
            + "java.lang.IllegalArgumentException",
        "public int SplashPages.set(int) throws java.lang.IllegalArgumentException",
        "public int SplashPages.append(int) throws java.lang.IllegalArgumentException,"
            + "java.lang.IllegalStateException",
        "public int SplashPages.clearBuffer()",
        "public int SplashPages.firstError()",
        "public int SplashPages.story() throws java.lang.IllegalArgumentException",
        "public int SplashPages.undo() throws java.lang.IllegalStateException",
        "public int SplashPages.panel(int,int) throws java.lang.IndexOutOfBoundsException,"
            + "java.lang.IllegalArgumentException",
        "public int SplashPages.page(int,int) throws java.lang.IndexOutOfBoundsException,"
            + "java.lang.IllegalArgumentException",
        "public int SplashPages.at(int,int,int) throws java.lang.IndexOutOfBoundsException",
        "public int SplashPages.count(int) throws java.lang.IllegalArgumentException",
        "public int SplashPages.ifExchanged(int,int) throws java.lang.IndexOutOfBoundsException,"
            + "java.lang.IllegalArgumentException",
        "public int SplashPages.leastSetting()",
        "public int SplashPages.bestWidth(int) throws java.lang.IndexOutOfBoundsException",
        "public double SplashPages.fullness()",
        "public long SplashPages.digest()",
    };

    public static void main(String[] args) {
        Checks checks = new Checks();
        Set<String> due = new TreeSet<>(Arrays.asList(DUE));
        Set<String> seen = new TreeSet<>();
        Set<String> publicNames = new TreeSet<>();
        Set<String> hiddenNames = new TreeSet<>();
        for (Field field : SplashPages.class.getDeclaredFields()) {
            if (!Modifier.isPrivate(field.getModifiers())) {
                seen.add(field.toGenericString());
            }
        }
        for (Constructor<?> constructor : SplashPages.class.getDeclaredConstructors()) {
            seen.add(constructor.toGenericString());
        }
        for (Method method : SplashPages.class.getDeclaredMethods()) {
            if (Modifier.isPrivate(method.getModifiers())) {
                hiddenNames.add(method.getName());
            } else {
                seen.add(method.toGenericString());
                publicNames.add(method.getName());
            }
        }
        for (Class<?> inside : SplashPages.class.getDeclaredClasses()) {
            checks.due(inside + " is static", Modifier.isStatic(inside.getModifiers()) ? 1 : 0, 1);
            for (Method method : inside.getDeclaredMethods()) {
                hiddenNames.add(method.getName());
            }
        }
        for (String member : due) {
            checks.due(member + " is there", seen.contains(member) ? 1 : 0, 1);
        }
        for (String member : seen) {
            checks.due(member + " is of the document", due.contains(member) ? 1 : 0, 1);
        }
        for (String name : hiddenNames) {
            checks.due("the hidden " + name + " bears the name of a public one", publicNames.contains(name) ? 1 : 0, 0);
        }
        int modifiers = SplashPages.class.getModifiers();
        checks.due("the class is public and final",
                Modifier.isPublic(modifiers) && Modifier.isFinal(modifiers) ? 1 : 0, 1);
        checks.end();
    }
}
