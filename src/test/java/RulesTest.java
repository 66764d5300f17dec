import java.lang.reflect.Constructor;
import java.lang.reflect.Field;
import java.lang.reflect.Method;
import java.lang.reflect.Modifier;
import java.nio.charset.StandardCharsets;
import java.nio.file.Files;
import java.nio.file.Path;
import java.util.ArrayList;
import java.util.List;
import java.util.Set;
import java.util.TreeSet;
import java.util.regex.Matcher;
import java.util.regex.Pattern;

/** The public face of the document, and those rules of LANGUAGE.md that can be seen from outside. */
public final class RulesTest {
    private static final Checker c = new Checker("RulesTest");
    private static final String FACE =
        "int edge(int);int pace(int,int);int warm(int);int goes(int,int);int strain(int,int);int crack(int);"
        + "int house(int,int,int);int of(int,int);int hold(int,int);int as(int,int);int turn(int,int);"
        + "int haul(int,int);int years(int);int now(int);int ahead(int,int);int over(int);int cost(int);"
        + "int safe(int,int,int);int beside(int);int till(int,int);int straight(int,int);int when(int);"
        + "int lay(int,int,int);int deed(int,int);int deedOf(int,int);int whose(int);int meet(int,int,int);"
        + "int stake(int,int,int,int);int learnt(int,int);int lost(int,int);int feed(int,int);int wipe();"
        + "int town();int sheet(int,int,int);long write(int,int,long);int copy(int,int,int,int,int);"
        + "int lays(int);int map(int,int);int read(int,int);int image();int undo();int tear();int count(int);"
        + "int status(int)";
    private static final int MOST_LINES = 60;

    public static void main(String[] args) throws Exception {
        face();
        classes();
        source();
        c.end();
    }

    private static void face() {
        Set<String> due = new TreeSet<>(List.of(FACE.split(";")));
        Set<String> got = new TreeSet<>();
        for (Method m : GlacierStreets.class.getDeclaredMethods()) {
            if (Modifier.isPublic(m.getModifiers())) {
                StringBuilder s = new StringBuilder();
                for (Class<?> p : m.getParameterTypes()) {
                    s.append(s.length() == 0 ? "" : ",").append(p.getName());
                }
                got.add(m.getReturnType().getName() + " " + m.getName() + "(" + s + ")");
                c.holds(m.getName() + " is of the object", !Modifier.isStatic(m.getModifiers()));
            } else {
                c.holds(m.getName() + " is private", Modifier.isPrivate(m.getModifiers()));
            }
        }
        c.holds("the face " + due + " for " + got, due.equals(got));
        int of = GlacierStreets.class.getModifiers();
        c.holds("the class is public and final", Modifier.isPublic(of) && Modifier.isFinal(of));
        Constructor<?>[] all = GlacierStreets.class.getDeclaredConstructors();
        c.holds("one constructor, public and empty",
            all.length == 1 && Modifier.isPublic(all[0].getModifiers()) && all[0].getParameterCount() == 0);
        for (Field f : GlacierStreets.class.getDeclaredFields()) {
            c.holds(f.getName() + " is private", Modifier.isPrivate(f.getModifiers()));
        }
    }

    private static void classes() {
        List<Class<?>> all = new ArrayList<>(List.of(GlacierStreets.class.getDeclaredClasses()));
        for (Class<?> k : all) {
            c.holds(k + " is static", Modifier.isStatic(k.getModifiers()));
            c.holds(k + " isn't public", !Modifier.isPublic(k.getModifiers()));
        }
        all.add(GlacierStreets.class);
        c.holds("twelve classes at most", all.size() <= 12);
        Set<String> names = new TreeSet<>();
        for (Method m : GlacierStreets.class.getMethods()) {
            names.add(m.getName());
        }
        for (Class<?> k : all) {
            int fields = 0;
            for (Field f : k.getDeclaredFields()) {
                int of = f.getModifiers();
                c.holds(f + " is final if static", !Modifier.isStatic(of) || Modifier.isFinal(of));
                fields += Modifier.isStatic(of) ? 0 : 1;
            }
            c.holds(k + " has twenty fields at most", fields <= 20);
            for (Method m : k.getDeclaredMethods()) {
                c.holds(m + " has seven parameters at most", m.getParameterCount() <= 7);
                boolean isFace = k == GlacierStreets.class && Modifier.isPublic(m.getModifiers());
                c.holds(m + " doesn't bear a public one's name", isFace || !names.contains(m.getName()));
            }
        }
    }

    private static void source() throws Exception {
        byte[] bytes = Files.readAllBytes(Path.of("src/main/java/GlacierStreets.java"));
        for (byte b : bytes) {
            c.holds("ASCII", b > 0);
        }
        String text = new String(bytes, StandardCharsets.US_ASCII);
        String code = text.replaceAll("(?s)/\\*.*?\\*/", "").replaceAll("//[^\n]*", "")
            .replaceAll("\"[^\"\n]*\"", "\"\"").replaceAll("'.'", "''");
        String[] never = {
            "throw", "throws", "try", "catch", "finally", "synchronized", "assert", "import", "package", "protected",
            "double", "float", "Object", "hashCode", "var", "yield", "native", "volatile", "transient",
        };
        for (String word : never) {
            c.holds("no " + word, !Pattern.compile("\\b" + word + "\\b").matcher(code).find());
        }
        for (String sign : new String[] {"->", "::", "Exact", "@", "\"\" +", "+ \"\""}) {
            c.holds("no " + sign, !code.contains(sign));
        }
        libraryIsListed(code);
        methodsAreShort(code);
    }

    /** What is called on the library's own names is on the list of LANGUAGE.md. */
    private static void libraryIsListed(String code) {
        Set<String> listed = Set.of("Math.min", "Math.max", "Math.abs", "Integer.bitCount", "System.arraycopy");
        Matcher m = Pattern.compile("\\b(Math|Integer|Long|System|Arrays|String|Character|Byte)\\.\\w+").matcher(code);
        while (m.find()) {
            c.holds(m.group() + " is listed", listed.contains(m.group()));
        }
    }

    private static void methodsAreShort(String code) {
        String[] lines = code.split("\n");
        int begin = 0;
        for (int i = 0; i < lines.length; i++) {
            if (lines[i].matches("\\s+[\\w\\[\\] ]+\\([\\w\\[\\], ]*\\) \\{") && !lines[i].matches("\\s+(if|for|while|switch)\\b.*")) {
                begin = i;
            }
            c.holds("line " + i + " is in a short method", !lines[i].matches("\\s+return.*") || i - begin < MOST_LINES);
        }
    }
}
