import java.lang.reflect.Constructor;
import java.lang.reflect.Field;
import java.lang.reflect.Member;
import java.lang.reflect.Method;
import java.lang.reflect.Modifier;
import java.nio.file.Files;
import java.nio.file.Path;
import java.util.ArrayList;
import java.util.List;
import java.util.Set;
import java.util.TreeSet;
import java.util.regex.Matcher;
import java.util.regex.Pattern;

/** The public face, and those rules of LANGUAGE.md that can be seen without reading for sense. */
public final class FaceTest {
    private static final Check check = new Check("FaceTest");

    private static final Set<String> FACE = Set.of(
        "int write(int,long)", "int wipe()", "int fault()", "int library()", "int at(int)", "int book(int,int)",
        "int reader(int,int)", "int law(int)", "int ask(int,int)", "int bring(int)", "int undo()", "int judge(int,int)",
        "int meant(int)", "int goes(int,int)", "int goesAt(int,int,int)", "int around(int)", "int never(int,int)",
        "int order()", "int orderAt(int)", "int given(int,int)", "int forget()", "int rows()", "int stood(int)",
        "int next()", "long clerk(int,int,int,int,boolean)", "long seed(long)", "int week(int,int)", "int keep(int)",
        "int again(int)", "int count(int)");

    public static void main(String[] args) throws Exception {
        constants();
        publicMethods();
        membersOfTheClassesInside();
        source();
        check.end();
    }

    private static void constants() throws Exception {
        check.due("UNKNOWN", BesideBook.UNKNOWN, Check.UNKNOWN);
        check.due("OUTSIDE", BesideBook.OUTSIDE, Check.OUTSIDE);
        check.due("STATE", BesideBook.STATE, Check.STATE);
        check.due("FULL", BesideBook.FULL, Check.FULL);
        check.due("NONE", BesideBook.NONE, Check.NONE);
        Set<String> open = new TreeSet<>();
        for (Field field : BesideBook.class.getDeclaredFields()) {
            if (!Modifier.isPrivate(field.getModifiers())) {
                open.add(Modifier.toString(field.getModifiers()) + " " + field.getType() + " " + field.getName());
            }
            check.holds("static fields are final: " + field, !Modifier.isStatic(field.getModifiers()) || Modifier.isFinal(field.getModifiers()));
        }
        Set<String> due = new TreeSet<>();
        for (String name : List.of("UNKNOWN", "OUTSIDE", "STATE", "FULL", "NONE")) {
            due.add("public static final int " + name);
        }
        check.holds("the open fields are the constants: " + open, open.equals(due));
    }

    private static String head(Method method) {
        StringBuilder head = new StringBuilder(method.getReturnType() + " " + method.getName() + "(");
        for (int i = 0; i < method.getParameterCount(); i++) {
            head.append(i == 0 ? "" : ",").append(method.getParameterTypes()[i]);
        }
        return head.append(")").toString();
    }

    private static boolean isPlainPublic(Member member) {
        return member.getModifiers() == Modifier.PUBLIC;
    }

    private static void publicMethods() {
        check.due("public and final", BesideBook.class.getModifiers(), Modifier.PUBLIC | Modifier.FINAL);
        Constructor<?>[] constructors = BesideBook.class.getDeclaredConstructors();
        check.due("constructors", constructors.length, 1);
        check.holds("it is public, without parameters", isPlainPublic(constructors[0]) && constructors[0].getParameterCount() == 0);
        Set<String> open = new TreeSet<>();
        Set<String> names = new TreeSet<>();
        for (Method method : BesideBook.class.getDeclaredMethods()) {
            if (!Modifier.isPrivate(method.getModifiers())) {
                open.add(head(method));
                names.add(method.getName());
                check.holds(method + " is public and no more", isPlainPublic(method));
            }
        }
        check.holds("the open methods are the document's: " + open, open.equals(new TreeSet<>(FACE)));
        for (Method method : BesideBook.class.getDeclaredMethods()) {
            if (Modifier.isPrivate(method.getModifiers())) {
                check.holds(method + " has a name of its own", !names.contains(method.getName()));
            }
        }
    }

    private static void membersOfTheClassesInside() {
        Class<?>[] inside = BesideBook.class.getDeclaredClasses();
        check.holds("some twelve classes at most", inside.length <= 12);
        for (Class<?> one : inside) {
            int modifiers = one.getModifiers();
            check.holds(one + " is static", Modifier.isStatic(modifiers));
            check.holds(one + " is not open", !Modifier.isPublic(modifiers) && !Modifier.isProtected(modifiers));
            for (Method method : one.getDeclaredMethods()) {
                check.holds(method + " has a name of its own", FACE.stream().noneMatch(head -> head.contains(" " + method.getName() + "(")));
            }
            for (Field field : one.getDeclaredFields()) {
                check.holds(field + " is no static state", !Modifier.isStatic(field.getModifiers()));
            }
        }
    }

    private static void source() throws Exception {
        String source = Files.readString(Path.of("src/main/java/BesideBook.java"));
        check.holds("no package", !source.contains("package "));
        for (int i = 0; i < source.length(); i++) {
            if (source.charAt(i) > 126) {
                check.holds("plain signs alone, at " + i, false);
            }
        }
        String code = source.replaceAll("(?s)/\\*.*?\\*/", " ").replaceAll("//[^\n]*", " ");
        for (String word : List.of("throw", "throws", "try", "catch", "finally", "synchronized", "assert", "volatile", "transient", "var")) {
            check.holds("no " + word, !Pattern.compile("\\b" + word + "\\b").matcher(code).find());
        }
        for (String sign : List.of("->", "::", "@", "Exact", "Random", "Thread", "Object", ".equals", "hashCode", "toString")) {
            check.holds("no " + sign, !code.contains(sign));
        }
        List<String> imports = new ArrayList<>();
        Matcher matcher = Pattern.compile("import ([^;]*);").matcher(code);
        while (matcher.find()) {
            imports.add(matcher.group(1));
        }
        check.holds("imports " + imports, List.of("java.util.Arrays").containsAll(imports));
        matcher = Pattern.compile("\\b(Arrays|System|Integer|Long|Math)\\.(\\w+)").matcher(code);
        while (matcher.find()) {
            check.holds(matcher.group(), Set.of("Arrays.fill", "System.arraycopy", "Integer.bitCount").contains(matcher.group()));
        }
        matcher = Pattern.compile("\\bwhile\\b").matcher(code);
        check.holds("every loop counts", !matcher.find());
    }
}
