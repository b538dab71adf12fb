import java.io.IOException;
import java.lang.reflect.Constructor;
import java.lang.reflect.Field;
import java.lang.reflect.Method;
import java.lang.reflect.Modifier;
import java.nio.charset.StandardCharsets;
import java.nio.file.Files;
import java.nio.file.Path;
import java.util.Set;
import java.util.TreeSet;
import java.util.regex.Matcher;
import java.util.regex.Pattern;

/** The rules of LANGUAGE.md that can be read off the source and the compiled classes. */
public final class LanguageTest {
    private static final String FACE = "back/1 between/3 blame/2 carry/1 child/2 common/2 cut/2 fault/1 feed/5 find/1 first/0"
        + " force/2 go/1 leaning/2 leans/2 least/2 letter/2 load/1 many/1 merge/1 merges/2 name/0 named/0 out/1 prune/1 put/1"
        + " redo/0 restore/1 row/2 state/2 status/0 tell/1 twin/1 type/2 undo/0 unname/0 visit/2 wait/1 way/3 withdraw/1";
    private static final String[] FORBIDDEN = {"\\bthrow\\b", "\\btry\\b", "\\bcatch\\b", "\\bsynchronized\\b", "\\bassert\\b",
        "\\bimport\\b", "\\bpackage\\b", "->", "::", "@", "\\bdouble\\b", "\\bfloat\\b", "\\bSystem\\.(?!arraycopy)",
        "\\bequals\\b", "\\bhashCode\\b", "\\btoString\\b", "\"\\s*\\+", "\\+\\s*\"", "Exact\\b", "\\bObject\\b"};

    private static int wrong = 0;

    private static void hold(boolean fine, String what) {
        if (!fine) {
            wrong++;
            System.out.println(what);
        }
    }

    private static void face() {
        Set<String> names = new TreeSet<>();
        for (Method m : BranchedText.class.getDeclaredMethods()) {
            int mods = m.getModifiers();
            if (Modifier.isPublic(mods)) {
                names.add(m.getName() + "/" + m.getParameterCount());
                hold(m.getReturnType() == int.class && !Modifier.isStatic(mods), m + " is not as the face has it");
            } else {
                hold(Modifier.isPrivate(mods) || m.isSynthetic(), m + " is neither public nor private");
            }
        }
        hold(String.join(" ", names).equals(FACE), "the face has " + names);
        for (Constructor<?> c : BranchedText.class.getDeclaredConstructors()) {
            hold(Modifier.isPublic(c.getModifiers()) && c.getParameterCount() == 0, c + " is not of the face");
        }
        for (Field f : BranchedText.class.getDeclaredFields()) {
            hold(Modifier.isPrivate(f.getModifiers()) || f.getName().equals("NONE"), f + " is not private");
        }
        hold(Modifier.isFinal(BranchedText.class.getModifiers()), "the class is not final");
    }

    private static void members(Class<?> c) {
        int fields = 0;
        for (Field f : c.getDeclaredFields()) {
            boolean constant = Modifier.isStatic(f.getModifiers());
            fields += constant ? 0 : 1;
            hold(!constant || Modifier.isFinal(f.getModifiers()), f + " is static and not final");
        }
        hold(fields <= 20, c + " has " + fields + " fields");
        for (Method m : c.getDeclaredMethods()) {
            hold(m.getParameterCount() <= 7, m + " takes too many");
            hold(!Modifier.isPrivate(m.getModifiers()) || !(" " + FACE).contains(" " + m.getName() + "/"),
                m + " bears the name of a public one");
        }
    }

    private static void source(String text) {
        for (int i = 0; i < text.length(); i++) {
            hold(text.charAt(i) < 128, "the sign at " + i + " is not of 1 to 127");
        }
        String plain = text.replaceAll("/\\*(?s:.*?)\\*/", "").replaceAll("//[^\n]*", "");
        for (String word : FORBIDDEN) {
            Matcher m = Pattern.compile(word).matcher(plain);
            hold(!m.find(), word + " stands in the source");
        }
        String[] lines = text.split("\n");
        int begin = -1;
        for (int i = 0; i < lines.length; i++) {
            if (lines[i].matches("( {4}| {8})[A-Za-z].*\\) \\{")) {
                begin = i;
            }
            if (lines[i].matches(" {4}\\}| {8}\\}") && begin >= 0) {
                hold(i - begin < 60, "line " + (begin + 1) + " begins a method of " + (i - begin + 1) + " lines");
                begin = -1;
            }
        }
    }

    public static void main(String[] args) throws IOException {
        face();
        members(BranchedText.class);
        hold(BranchedText.class.getDeclaredClasses().length < 12, "there are too many classes");
        for (Class<?> c : BranchedText.class.getDeclaredClasses()) {
            hold(Modifier.isStatic(c.getModifiers()) && !Modifier.isPublic(c.getModifiers()), c + " is not static");
            members(c);
        }
        source(Files.readString(Path.of("src/main/java/BranchedText.java"), StandardCharsets.ISO_8859_1));
        System.out.println("LanguageTest: " + wrong + " rules not kept");
        if (wrong > 0) {
            System.exit(1);
        }
    }
}
