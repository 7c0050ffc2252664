import java.io.IOException;
import java.lang.reflect.Constructor;
import java.lang.reflect.Field;
import java.lang.reflect.Method;
import java.lang.reflect.Modifier;
import java.nio.file.Files;
import java.nio.file.Path;
import java.util.Set;
import java.util.TreeSet;
import java.util.regex.Matcher;
import java.util.regex.Pattern;

/** The public face is the document's and no more; what LANGUAGE.md rules out does not stand in the source. */
public final class FaceTest {
    private static final String[] FACE = {
        "int camp(int,int,int,int)", "int ofCamp(int,int)", "int ofSort(int,int,int)", "int turn(int,int,int,int)",
        "long value(int,int,int,int)", "int today(int,int,int)", "long worth(int,int,int)",
        "int crate(int,int,int,int)", "long lent(int,int,int,int)", "int both(int,int,int,int,int)",
        "int part(int,int,int)", "int ofPart(int,int)", "int at(int,int)", "int fits(int,int)",
        "int move(int,int,int,int)", "int mend(int,boolean)", "int hide(int,boolean)", "int spoils(int)",
        "int odds(int,int)", "int runs()", "int most(int)", "int goes(int)", "int drive(int,int,int,int)",
        "int sheet(int,int,int)", "int lose(int)", "int put(int,int,int)", "long cell(int,int,int)",
        "int copy(int,int,int,int,int)", "int tell(int)", "int list(int)", "int as(int,int)", "int trace()",
        "int fault()", "int many(int)"};
    private static final String[] CONSTANTS = {"UNKNOWN", "OUTSIDE", "STATE", "FULL", "NONE", "LOST"};
    private static final String[] RULED_OUT = {
        "\\bthrow\\b", "\\btry\\b", "\\bcatch\\b", "\\bsynchronized\\b", "\\bassert\\b", "->", "::", "@", "\\bThread\\b",
        "\\bExact\\b", "\\bnanoTime\\b", "\\bcurrentTimeMillis\\b", "\\bRandom\\b", "\\bpackage\\b", "\\bwhile \\(true\\)",
        "\\bequals\\(", "\\bhashCode\\(", "\\btoString\\("};

    public static void main(String[] args) throws IOException {
        members();
        constants();
        source();
        Check.end("FaceTest");
    }

    private static void members() {
        Set<String> visible = new TreeSet<>();
        Set<String> hidden = new TreeSet<>();
        Set<String> names = new TreeSet<>();
        for (Method m : FourLorries.class.getDeclaredMethods()) {
            if (Modifier.isPrivate(m.getModifiers())) {
                hidden.add(m.getName());
            } else {
                visible.add(told(m));
                names.add(m.getName());
            }
        }
        Check.yes("the methods of the face: " + visible, visible.equals(new TreeSet<>(Set.of(FACE))));
        hidden.retainAll(names);
        Check.yes("private methods with public names: " + hidden, hidden.isEmpty());
        Check.yes("public and final", Modifier.isPublic(FourLorries.class.getModifiers())
            && Modifier.isFinal(FourLorries.class.getModifiers()));
        Constructor<?>[] made = FourLorries.class.getDeclaredConstructors();
        Check.due("constructors", made.length, 1);
        Check.due("parameters of the constructor", made[0].getParameterCount(), 0);
        Check.yes("a public constructor", Modifier.isPublic(made[0].getModifiers()));
        for (Class<?> inside : FourLorries.class.getDeclaredClasses()) {
            Check.yes("static: " + inside.getName(), Modifier.isStatic(inside.getModifiers()));
        }
    }

    private static String told(Method m) {
        StringBuilder b = new StringBuilder(m.getReturnType() + " " + m.getName() + "(");
        for (Class<?> type : m.getParameterTypes()) {
            b.append(b.charAt(b.length() - 1) == '(' ? "" : ",").append(type);
        }
        return b.append(')').toString();
    }

    private static void constants() {
        Set<String> visible = new TreeSet<>();
        for (Field f : FourLorries.class.getDeclaredFields()) {
            if (!Modifier.isPrivate(f.getModifiers())) {
                visible.add(f.getName());
            }
        }
        Check.yes("the constants of the face: " + visible, visible.equals(new TreeSet<>(Set.of(CONSTANTS))));
        Check.due("UNKNOWN", FourLorries.UNKNOWN, -1);
        Check.due("OUTSIDE", FourLorries.OUTSIDE, -2);
        Check.due("STATE", FourLorries.STATE, -3);
        Check.due("FULL", FourLorries.FULL, -4);
        Check.due("NONE", FourLorries.NONE, -9);
        Check.due("LOST", FourLorries.LOST, Long.MIN_VALUE);
    }

    private static void source() throws IOException {
        String text = Files.readString(Path.of("src/main/java/FourLorries.java"));
        String code = text.replaceAll("(?s)/\\*.*?\\*/", "").replaceAll("//[^\n]*", "");
        for (String word : RULED_OUT) {
            Matcher found = Pattern.compile(word).matcher(code);
            Check.yes("not in the source: " + word, !found.find());
        }
        Matcher imports = Pattern.compile("import ([^;]*);").matcher(code);
        while (imports.find()) {
            Check.yes("import " + imports.group(1), Set.of("java.util.Arrays", "java.util.ArrayList", "java.util.List").contains(imports.group(1)));
        }
    }
}
