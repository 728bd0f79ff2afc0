import java.io.IOException;
import java.lang.reflect.Constructor;
import java.lang.reflect.Field;
import java.lang.reflect.Member;
import java.lang.reflect.Method;
import java.lang.reflect.Modifier;
import java.nio.file.Files;
import java.nio.file.Path;
import java.util.ArrayList;
import java.util.List;
import java.util.TreeSet;
import java.util.regex.Matcher;
import java.util.regex.Pattern;

/** The face of the class, and those rules of LANGUAGE.md that can be read off the source. */
public final class LanguageTest {
    private static final List<String> FACE = List.of(
        "int write(int)", "int wipe()", "int fault()", "int bazaar()", "int fencer(int,int)", "int good(int,int)",
        "int bout(int,int,int)", "int cost(int,int)", "int meet(int,int)", "int step(int)", "int salute(int,int)",
        "int undo()", "int chain(int,int,int)", "int order(int)", "int judge(int,long)", "int see(int,int)",
        "int unsee()", "int masks(int)", "int share(int,boolean)", "int rests(int,int,int)",
        "int clouded(int,int,int,boolean)", "long seed(long)", "int feasts(int)", "int keep(int)", "int again(int)",
        "int count(int)");
    private static final List<String> CONSTANTS = List.of("UNKNOWN", "OUTSIDE", "STATE", "FULL", "NONE");

    public static void main(String[] args) throws IOException {
        face();
        constants();
        classesInside();
        source(Files.readString(Path.of("src/main/java/FoilBazaar.java")));
        Check.end("LanguageTest");
    }

    private static void holds(String what, boolean so) {
        Check.holds(what, so);
    }

    private static String told(Method m) {
        List<String> types = new ArrayList<>();
        for (Class<?> type : m.getParameterTypes()) {
            types.add(type.getName());
        }
        return m.getReturnType().getName() + " " + m.getName() + "(" + String.join(",", types) + ")";
    }

    private static boolean isPublic(Member m) {
        return Modifier.isPublic(m.getModifiers());
    }

    private static boolean isPrivate(Member m) {
        return Modifier.isPrivate(m.getModifiers());
    }

    private static void face() {
        int modifiers = FoilBazaar.class.getModifiers();
        holds("public and final", Modifier.isPublic(modifiers) && Modifier.isFinal(modifiers));
        TreeSet<String> there = new TreeSet<>();
        for (Method m : FoilBazaar.class.getDeclaredMethods()) {
            holds(told(m) + " is public or private", isPublic(m) || isPrivate(m));
            holds(told(m) + " is not static", !isPublic(m) || !Modifier.isStatic(m.getModifiers()));
            if (isPublic(m)) {
                there.add(told(m));
            }
        }
        holds("the methods of the face and no others: " + there, there.equals(new TreeSet<>(FACE)));
        Constructor<?>[] made = FoilBazaar.class.getDeclaredConstructors();
        holds("one constructor", made.length == 1 && isPublic(made[0]) && made[0].getParameterCount() == 0);
    }

    private static void constants() {
        TreeSet<String> there = new TreeSet<>();
        for (Field f : FoilBazaar.class.getDeclaredFields()) {
            holds(f + " is public or private", isPublic(f) || isPrivate(f));
            if (isPublic(f)) {
                there.add(f.getName());
                holds(f + " is static int", Modifier.isStatic(f.getModifiers()) && f.getType() == int.class);
            }
        }
        holds("the constants of the face and no others: " + there, there.equals(new TreeSet<>(CONSTANTS)));
        Check.due("UNKNOWN", FoilBazaar.UNKNOWN, -1);
        Check.due("OUTSIDE", FoilBazaar.OUTSIDE, -2);
        Check.due("STATE", FoilBazaar.STATE, -3);
        Check.due("FULL", FoilBazaar.FULL, -4);
        Check.due("NONE", FoilBazaar.NONE, -9);
    }

    private static boolean namedInFace(String name) {
        for (String told : FACE) {
            if (told.contains(" " + name + "(")) {
                return true;
            }
        }
        return false;
    }

    private static void classesInside() {
        List<Class<?>> all = new ArrayList<>(List.of(FoilBazaar.class.getDeclaredClasses()));
        holds("at most twelve classes", all.size() + 1 <= 12);
        for (Class<?> inside : all) {
            holds(inside + " is private and static",
                Modifier.isPrivate(inside.getModifiers()) && Modifier.isStatic(inside.getModifiers()));
            for (Method m : inside.getDeclaredMethods()) {
                holds(m + " does not bear a name of the face", !namedInFace(m.getName()));
                holds(m + " takes at most seven", m.getParameterCount() <= 7);
            }
        }
        all.add(FoilBazaar.class);
        for (Class<?> one : all) {
            int fields = 0;
            for (Field f : one.getDeclaredFields()) {
                boolean isStatic = Modifier.isStatic(f.getModifiers());
                holds(f + " is final if static", !isStatic || Modifier.isFinal(f.getModifiers()));
                fields += isStatic ? 0 : 1;
            }
            holds(one + " has at most twenty fields", fields <= 20);
        }
        for (Method m : FoilBazaar.class.getDeclaredMethods()) {
            holds(m + " does not bear a name of the face", !isPrivate(m) || !namedInFace(m.getName()));
        }
    }

    private static void source(String source) {
        holds("signs 1 to 127", source.chars().allMatch(sign -> sign > 0 && sign < 128));
        holds("no package", !source.startsWith("package"));
        String code = source.replaceAll("(?s)/\\*.*?\\*/", "").replaceAll("//[^\n]*", "");
        for (String word : List.of("throw", "throws", "try", "catch", "synchronized", "assert", "protected", "Exact",
            "System\\.(?!arraycopy)", "NaN", "record", "Object", "Iterator", "->", "::", "\"")) {
            Matcher at = Pattern.compile(word.matches("[a-z]+") ? "\\b" + word + "\\b" : word).matcher(code);
            holds("no " + word, !at.find());
        }
        Matcher imports = Pattern.compile("import ([^;]*);").matcher(code);
        while (imports.find()) {
            holds("import of " + imports.group(1), imports.group(1).equals("java.util.Arrays"));
        }
    }
}
