import java.io.IOException;
import java.lang.reflect.Constructor;
import java.lang.reflect.Field;
import java.lang.reflect.Method;
import java.lang.reflect.Modifier;
import java.nio.file.Files;
import java.nio.file.Path;
import java.util.ArrayList;
import java.util.List;
import java.util.Set;
import java.util.TreeSet;

/** The public face is the document's, with nothing beside it; and the class keeps to what LANGUAGE.md says of members. */
public final class FaceTest {
    private static final String[] FACE = {
        "int status()", "int plate()", "int motif()", "int shows(int,int,int)", "int ahead(int,int,int,int)",
        "int same(int,int,int)", "int taken(int,int,int,int)", "int stood(int,boolean,int,int,int)",
        "boolean cross(int,int)", "int fact(int,int)", "int span(int,boolean,int)",
        "int times(int,boolean,boolean,int)", "int quarrel(int)", "int frees(int,int)", "int order(int,int,int)",
        "boolean edges(int,int,int)", "int row(int)", "int ring(int)", "int rows(int)", "int out(int)",
        "boolean want(int,int,int,int)", "int best()", "int hour(int)", "boolean law(int,int)",
        "boolean death(int,int,int)", "int free(int,int,int)"
    };
    private static final List<String> TEXT = List.of(
        "public static final int NONE = -1", "public PlateRoom()", "public int status()",
        "---- TIMES",
        "public int plate()", "public int motif()", "public int shows(int plate, int motif, int day)",
        "public int ahead(int a, int b, int n, int day)", "public int same(int a, int b, int day)",
        "public int taken(int plate, int from, int to, int day)",
        "public int stood(int motif, boolean end, int from, int to, int day)",
        "public boolean cross(int fact, int day)", "public int fact(int fact, int what)",
        "public int span(int plate, boolean greatest, int day)",
        "public int times(int motif, boolean end, boolean greatest, int day)",
        "public int quarrel(int day)", "public int frees(int fact, int day)",
        "public int order(int a, int b, int day)",
        "---- EDGES",
        "public boolean edges(int plate, int left, int right)", "public int row(int set)",
        "public int ring(int set)", "public int rows(int set)", "public int out(int k)",
        "---- copies",
        "public boolean want(int plate, int wanted, int hours, int lost)", "public int best()",
        "public int hour(int plate)",
        "---- rights",
        "public boolean law(int from, int days)", "public boolean death(int plate, int day, int told)",
        "public int free(int plate, int day, int known)");

    public static void main(String[] args) throws IOException {
        Check.part("face");
        Check.due("public final class", PlateRoom.class.getModifiers(), Modifier.PUBLIC | Modifier.FINAL);
        methods();
        fields();
        constructors();
        inside();
        text();
        Check.finish();
    }

    private static String head(Method method) {
        StringBuilder text = new StringBuilder(method.getReturnType().getName());
        text.append(' ').append(method.getName()).append('(');
        Class<?>[] types = method.getParameterTypes();
        for (int k = 0; k < types.length; k++) {
            text.append(k == 0 ? "" : ",").append(types[k].getName());
        }
        return text.append(')').toString();
    }

    private static void methods() {
        Set<String> due = new TreeSet<>(Set.of(FACE));
        Set<String> publicNames = new TreeSet<>();
        for (Method method : PlateRoom.class.getDeclaredMethods()) {
            int how = method.getModifiers();
            if (Modifier.isPublic(how)) {
                publicNames.add(method.getName());
                Check.due(head(method) + " is in the face", due.remove(head(method)), true);
                Check.due(head(method) + " is public alone", how, Modifier.PUBLIC);
            } else {
                Check.due(head(method) + " is private", Modifier.isPrivate(how), true);
            }
        }
        Check.due("missing " + due, due.size(), 0);
        for (Method method : PlateRoom.class.getDeclaredMethods()) {
            boolean hidden = !Modifier.isPublic(method.getModifiers());
            Check.due(head(method) + " bears a public name", hidden && publicNames.contains(method.getName()), false);
        }
    }

    private static void fields() {
        for (Field field : PlateRoom.class.getDeclaredFields()) {
            int how = field.getModifiers();
            boolean constant = field.getName().equals("NONE");
            Check.due(field + " is public", Modifier.isPublic(how), constant);
            Check.due(field + " is private", Modifier.isPrivate(how), !constant);
            Check.due(field + " is no static state", Modifier.isStatic(how) && !Modifier.isFinal(how), false);
        }
        Check.due("NONE", PlateRoom.NONE, -1);
    }

    private static void constructors() {
        Constructor<?>[] all = PlateRoom.class.getDeclaredConstructors();
        Check.due("constructors", all.length, 1);
        Check.due("its parameters", all[0].getParameterCount(), 0);
        Check.due("it is public", all[0].getModifiers(), Modifier.PUBLIC);
    }

    private static void inside() {
        Class<?>[] classes = PlateRoom.class.getDeclaredClasses();
        Check.due("at most twelve classes", classes.length < 12, true);
        for (Class<?> inner : classes) {
            int how = inner.getModifiers();
            Check.due(inner + " is static", Modifier.isStatic(how), true);
            Check.due(inner + " is hidden", Modifier.isPublic(how) || Modifier.isProtected(how), false);
            Check.due(inner + " has few fields", inner.getDeclaredFields().length <= 20, true);
            for (Field field : inner.getDeclaredFields()) {
                boolean state = Modifier.isStatic(field.getModifiers()) && !Modifier.isFinal(field.getModifiers());
                Check.due(field + " is no static state", state, false);
            }
        }
    }

    /** The face as it is written: its order, the names of what is given, and what stands ahead of the calls. */
    private static void text() throws IOException {
        List<String> found = new ArrayList<>();
        for (String line : Files.readAllLines(Path.of("src/main/java/PlateRoom.java"))) {
            String word = line.trim();
            if (line.startsWith("    public ")) {
                found.add(word.replaceAll("( \\{|;)$", ""));
            } else if (word.startsWith("// ----")) {
                found.add(word.substring(3));
            }
        }
        // What stands behind the last call is ahead of none.
        int behind = found.indexOf(TEXT.get(TEXT.size() - 1)) + 1;
        for (int k = 0; k < TEXT.size(); k++) {
            Check.due(TEXT.get(k) + " at its place", k < found.size() && TEXT.get(k).equals(found.get(k)), true);
        }
        Check.due("nothing between them", behind, TEXT.size());
    }
}
