import java.lang.reflect.Constructor;
import java.lang.reflect.Field;
import java.lang.reflect.Method;
import java.lang.reflect.Modifier;
import java.nio.charset.StandardCharsets;
import java.nio.file.Files;
import java.nio.file.Path;
import java.util.ArrayList;
import java.util.List;
import java.util.Set;
import java.util.TreeSet;

/** The public face that the document shows, and the rules of LANGUAGE.md that can be seen from outside. */
public final class FaceTest {
    private static final String FACE = "int road(int,int,int);int far(int,int);int person(int);int office(int,int);"
        + "int seat(int,int);int officeTold(int,int);int turn(int,int,int);int side(int,int);int changed(int,int,int);"
        + "int act(int,int,int,int,int);int hang(int,int);int lift(int,int);int actTold(int,int);int feed(int,long);"
        + "int text();int rule(int,int);long says(int,int,int);int acts(int,int);int felled(int,int);int inForce(int,int);"
        + "int byRight(int,int,int);int quarrels(int);int known(int,int);int crossed(int,int);int pay(int,int,int,int);"
        + "long owed(int,int);int elector(int,int);int clash(int,int);int bought(int);int seats(int,int);"
        + "int council(int,int,int,int);int clause(int);int worth(int,int,int);int against(int,int);int settling(int,int);"
        + "int bound(int,int);int journey(int,int,int);int count(int);int sheet(int,int,int);int cell(int,int,int);"
        + "int copy(int,int,int,int,int);int seatsRow(int,int,int,int);int taken(int,int)";

    public static void main(String[] args) throws Exception {
        constants();
        members();
        nested();
        source();
        Check.end();
    }

    private static void constants() {
        Check.due("NONE", TwoHeads.NONE, -1);
        Check.due("BAD", TwoHeads.BAD, -2);
        Check.due("STATE", TwoHeads.STATE, -3);
        Check.due("FULL", TwoHeads.FULL, -4);
        Check.due("NO", TwoHeads.NO, -4611686018427387904L);
    }

    private static String signature(Method m) {
        List<String> types = new ArrayList<>();
        for (Class<?> type : m.getParameterTypes()) types.add(type.getName());
        return m.getReturnType().getName() + " " + m.getName() + "(" + String.join(",", types) + ")";
    }

    private static void members() {
        Class<?> c = TwoHeads.class;
        Check.holds("public and final", Modifier.isPublic(c.getModifiers()) && Modifier.isFinal(c.getModifiers()));
        Set<String> wanted = new TreeSet<>(List.of(FACE.split(";")));
        Set<String> found = new TreeSet<>();
        for (Method m : c.getDeclaredMethods()) {
            if (Modifier.isPublic(m.getModifiers())) found.add(signature(m));
            else Check.holds(m + " is private", Modifier.isPrivate(m.getModifiers()));
        }
        Check.holds("the methods " + found, found.equals(wanted));
        Set<String> shown = new TreeSet<>();
        for (Field f : c.getDeclaredFields()) {
            if (Modifier.isPublic(f.getModifiers())) shown.add(f.getName());
            else Check.holds(f + " is private", Modifier.isPrivate(f.getModifiers()));
        }
        Check.holds("the constants " + shown, shown.equals(new TreeSet<>(List.of("NONE", "BAD", "STATE", "FULL", "NO"))));
        Constructor<?>[] made = c.getDeclaredConstructors();
        Check.holds("one constructor", made.length == 1 && Modifier.isPublic(made[0].getModifiers())
            && made[0].getParameterCount() == 0);
    }

    private static void nested() {
        Set<String> face = new TreeSet<>();
        for (String s : FACE.split(";")) face.add(s.substring(s.indexOf(' ') + 1, s.indexOf('(')));
        List<Class<?>> all = new ArrayList<>(List.of(TwoHeads.class.getDeclaredClasses()));
        Check.holds("at most twelve classes", all.size() < 12);
        for (Class<?> c : all) Check.holds(c + " is static and private", Modifier.isStatic(c.getModifiers()) && Modifier.isPrivate(c.getModifiers()));
        all.add(TwoHeads.class);
        for (Class<?> c : all) {
            int fields = 0;
            for (Field f : c.getDeclaredFields()) {
                if (Modifier.isStatic(f.getModifiers())) Check.holds(f + " is final", Modifier.isFinal(f.getModifiers()));
                else fields++;
            }
            Check.holds("at most twenty fields in " + c, fields <= 20);
            for (Method m : c.getDeclaredMethods()) {
                Check.holds("at most seven parameters in " + m, m.getParameterCount() <= 7);
                boolean shown = Modifier.isPublic(m.getModifiers());
                Check.holds(m + " has a name of its own", shown || !face.contains(m.getName()));
            }
        }
    }

    private static void source() throws Exception {
        String text = new String(Files.readAllBytes(Path.of("src/main/java/TwoHeads.java")), StandardCharsets.ISO_8859_1);
        for (char c : text.toCharArray()) if (c != '\n' && (c < 32 || c > 126)) Check.holds("a sign " + (int) c, false);
        String code = text.replaceAll("(?s)/\\*.*?\\*/", "").replaceAll("//[^\n]*", "").replaceAll("\"[^\"\n]*\"", "TEXT");
        for (String word : List.of("throw", "throws", "try", "catch", "finally", "synchronized", "assert", "protected", "package",
                "float", "double", "equals", "hashCode", "toString", "volatile", "native", "transient")) {
            Check.holds("no " + word, !code.matches("(?s).*\\b" + word + "\\b.*"));
        }
        for (String sign : List.of("->", "::", "Exact", "TEXT +", "+ TEXT", "static {")) Check.holds("no " + sign, !code.contains(sign));
        for (String line : code.split("\n")) {
            if (line.startsWith("import")) Check.holds(line, line.equals("import java.util.Arrays;"));
        }
        methodsAreShort(text);
    }

    private static void methodsAreShort(String text) {
        int from = 0;
        String[] lines = text.split("\n");
        for (int i = 0; i < lines.length; i++) {
            boolean head = lines[i].matches("( {4}| {8})[a-z].*\\) \\{");
            if (head) from = i;
            if (lines[i].matches("( {4}| {8})\\}")) Check.holds("a method of " + (i - from) + " lines at " + i, i - from <= 60 || lines[i].equals("    }"));
        }
    }
}
