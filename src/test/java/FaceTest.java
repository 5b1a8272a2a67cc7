import java.lang.reflect.Field;
import java.lang.reflect.Method;
import java.lang.reflect.Modifier;
import java.nio.file.Files;
import java.nio.file.Path;
import java.util.List;
import java.util.TreeSet;
import java.util.regex.Matcher;
import java.util.regex.Pattern;

/** The public face is the document's and no other, and the source keeps to the rules that can be read off its text. */
public final class FaceTest {
    private static final List<String> FACE = List.of(
        "int lay(int)", "int give(int, int)", "boolean shuffle(long)", "boolean begin(int)",
        "int play(int, int)", "int pass()", "boolean back()", "int about(int)", "int score(int)",
        "int hand(int, int)", "int where(int)", "int row(int)", "int turn(int, int)", "long deals(int)",
        "long chance(int, int, int)", "long held(int, int)", "int safest()", "int look(int, int)", "int judge()");

    /** What LANGUAGE.md rules out and what a look at the text can tell. */
    private static final List<String> RULED_OUT = List.of(
        "\\bthrow\\b", "\\bthrows\\b", "\\btry\\b", "\\bcatch\\b", "\\bsynchronized\\b", "\\bassert\\b",
        "->", "::", "\\bpackage\\b", "\\bstatic\\s*\\{", "\\bSystem\\.(?!arraycopy)", "\\bRandom\\b", "\\bThread\\b",
        "Exact\\b", "\\bprotected\\b", "\\bnative\\b", "\\btransient\\b", "\\bvolatile\\b");

    /** The kinds of static fields that rule 5 allows. */
    private static final List<Class<?>> CONSTANTS = List.of(
        int.class, long.class, boolean.class, char.class, String.class,
        int[].class, long[].class, char[].class, byte[].class);

    private static int wrong = 0;

    private static void bad(String what) {
        wrong++;
        System.out.println(what);
    }

    private static String told(Method m) {
        StringBuilder b = new StringBuilder(m.getReturnType().getName()).append(' ').append(m.getName()).append('(');
        Class<?>[] kinds = m.getParameterTypes();
        for (int i = 0; i < kinds.length; i++) {
            b.append(i == 0 ? "" : ", ").append(kinds[i].getName());
        }
        return b.append(')').toString();
    }

    private static void face() throws Exception {
        Class<?> c = DominoParlour.class;
        if (!Modifier.isPublic(c.getModifiers()) || !Modifier.isFinal(c.getModifiers())) {
            bad("the class is not public and final");
        }
        TreeSet<String> open = new TreeSet<>();
        TreeSet<String> names = new TreeSet<>();
        for (Method m : c.getDeclaredMethods()) {
            if (!Modifier.isPrivate(m.getModifiers())) {
                open.add(told(m));
                names.add(m.getName());
            }
        }
        if (!open.equals(new TreeSet<>(FACE))) {
            bad("the face is " + open);
        }
        for (Field f : c.getDeclaredFields()) {
            if (!Modifier.isPrivate(f.getModifiers()) && !f.getName().equals("NONE")) {
                bad("an open field: " + f.getName());
            }
        }
        if (c.getDeclaredConstructors().length != 1 || c.getConstructor(int.class, int.class, int.class) == null) {
            bad("there is another constructor");
        }
        for (Method m : c.getDeclaredMethods()) {
            if (Modifier.isPrivate(m.getModifiers()) && names.contains(m.getName())) {
                bad("a private method has a public one's name: " + m.getName());
            }
        }
        inside(c, names);
        state(c);
    }

    /** The constant of the document, and no static state beside constants. */
    private static void state(Class<?> c) throws Exception {
        Field none = c.getField("NONE");
        boolean constant = Modifier.isStatic(none.getModifiers()) && Modifier.isFinal(none.getModifiers());
        if (!constant || none.getType() != int.class || none.getInt(null) != -1) {
            bad("NONE is no constant, or not -1");
        }
        noStaticState(c);
        for (Class<?> part : c.getDeclaredClasses()) {
            noStaticState(part);
        }
    }

    private static void noStaticState(Class<?> c) {
        int ofObjects = 0;
        for (Field f : c.getDeclaredFields()) {
            if (!Modifier.isStatic(f.getModifiers())) {
                ofObjects++;
            } else if (!Modifier.isFinal(f.getModifiers()) || !CONSTANTS.contains(f.getType())) {
                bad("static state: " + f.getName());
            }
        }
        if (ofObjects > 20) {
            bad("too many fields: " + c.getName());
        }
    }

    private static void inside(Class<?> c, TreeSet<String> names) {
        for (Class<?> part : c.getDeclaredClasses()) {
            if (!Modifier.isStatic(part.getModifiers()) || Modifier.isPublic(part.getModifiers())) {
                bad("a class inside is not static, or is public: " + part.getName());
            }
            for (Method m : part.getDeclaredMethods()) {
                if (names.contains(m.getName())) {
                    bad("a method inside has a public one's name: " + m.getName());
                }
                if (m.getParameterCount() > 7) {
                    bad("too many parameters: " + m.getName());
                }
            }
        }
        if (c.getDeclaredClasses().length > 11) {
            bad("too many classes");
        }
    }

    private static void text(String path) throws Exception {
        String source = Files.readString(Path.of(path));
        String bare = source.replaceAll("(?s)/\\*.*?\\*/", "").replaceAll("//[^\n]*", "");
        for (String rule : RULED_OUT) {
            Matcher m = Pattern.compile(rule).matcher(bare);
            if (m.find()) {
                bad("ruled out: " + m.group());
            }
        }
        Matcher imports = Pattern.compile("\\bimport\\s+([\\w.*]+)").matcher(bare);
        while (imports.find()) {
            if (!List.of("java.util.Arrays", "java.util.ArrayList", "java.util.List").contains(imports.group(1))) {
                bad("a library that isn't listed: " + imports.group(1));
            }
        }
        Matcher methods = Pattern.compile("\n( {4,8})(?:public|private)[^\n;=]*\\{\n(.*?)\n\\1\\}", Pattern.DOTALL)
            .matcher(bare);
        while (methods.find()) {
            boolean isClass = methods.group().contains(" class ");
            if (!isClass && methods.group(2).split("\n").length > 60) {
                bad("a long method: " + methods.group().trim().split("\n")[0]);
            }
        }
    }

    public static void main(String[] args) throws Exception {
        face();
        text(args.length > 0 ? args[0] : "src/main/java/DominoParlour.java");
        System.out.println(wrong == 0 ? "face: as the document and the rules have it" : "face: " + wrong + " faults");
        if (wrong != 0) {
            System.exit(1);
        }
    }
}
