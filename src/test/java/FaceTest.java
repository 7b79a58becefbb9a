import java.lang.reflect.Field;
import java.lang.reflect.Method;
import java.lang.reflect.Modifier;
import java.nio.file.Files;
import java.nio.file.Paths;
import java.util.Arrays;
import java.util.Set;
import java.util.TreeSet;
import java.util.regex.Matcher;
import java.util.regex.Pattern;

/** The public face of the document, and the rules of LANGUAGE.md that a look at the class can tell. */
public final class FaceTest {
    private static final String FACE = "alike/2 allowed/1 as/2 ask/2 body/3 buyer/3 buyers/3 copy/5 count/1 drop/1"
            + " end/1 ends/1 failing/2 fault/0 feed/2 forced/3 hold/1 holds/3 idle/1 kind/1 line/2 many/0"
            + " nearest/1 read/0 run/4 set/3 sheet/3 status/0 together/2 trace/1 version/1 who/1 why/2";

    public static void main(String[] args) throws Exception {
        publicFace();
        classesInside();
        if (args.length > 0) {
            source(new String(Files.readAllBytes(Paths.get(args[0]))));
        }
        Check.end();
    }

    private static void publicFace() {
        Set<String> found = new TreeSet<>();
        for (Method m : MarkedBody.class.getDeclaredMethods()) {
            if (Modifier.isPublic(m.getModifiers())) {
                found.add(m.getName() + "/" + m.getParameterCount());
                Check.due(m.getName() + " is of an object", 0, Modifier.isStatic(m.getModifiers()) ? 1 : 0);
                Check.due(m.getName() + " answers an int", 1, m.getReturnType() == int.class ? 1 : 0);
            } else {
                Check.due(m.getName() + " is private", 1, Modifier.isPrivate(m.getModifiers()) ? 1 : 0);
            }
        }
        Set<String> due = new TreeSet<>(Arrays.asList(FACE.split(" ")));
        Check.due("face " + found, 1, found.equals(due) ? 1 : 0);
        Set<String> constants = new TreeSet<>();
        for (Field f : MarkedBody.class.getDeclaredFields()) {
            if (!Modifier.isPrivate(f.getModifiers())) {
                constants.add(f.getName());
            }
        }
        Check.due("constants " + constants, 1, constants.toString().equals("[BAD, FULL, NONE, STATE]") ? 1 : 0);
        Check.due("constructors", 1, MarkedBody.class.getConstructors().length);
        Check.due("final", 1, Modifier.isFinal(MarkedBody.class.getModifiers()) ? 1 : 0);
    }

    private static void classesInside() {
        Class<?>[] inside = MarkedBody.class.getDeclaredClasses();
        Check.due("at most twelve classes", 1, inside.length <= 11 ? 1 : 0);
        for (Class<?> c : inside) {
            Check.due(c + " is static", 1, Modifier.isStatic(c.getModifiers()) ? 1 : 0);
            Check.due(c + " is not public", 0, Modifier.isPublic(c.getModifiers()) ? 1 : 0);
            int fields = 0;
            for (Field f : c.getDeclaredFields()) {
                fields += Modifier.isStatic(f.getModifiers()) ? 0 : 1;
                boolean fixed = !Modifier.isStatic(f.getModifiers()) || Modifier.isFinal(f.getModifiers());
                Check.due(f + " is final if static", 1, fixed ? 1 : 0);
            }
            Check.due(c + " has few fields", 1, fields <= 20 ? 1 : 0);
            for (Method m : c.getDeclaredMethods()) {
                boolean like = (" " + FACE).contains(" " + m.getName() + "/");
                Check.due(m + " has a name of its own", 0, like ? 1 : 0);
                Check.due(m + " has few parameters", 1, m.getParameterCount() <= 7 ? 1 : 0);
            }
        }
    }

    private static void source(String text) {
        String code = text.replaceAll("(?s)/\\*.*?\\*/", "").replaceAll("//[^\n]*", "").replaceAll("\"[^\"\n]*\"", "\"\"");
        String[] ruledOut = {"\\bthrow\\b", "\\btry\\b", "\\bcatch\\b", "\\bsynchronized\\b", "\\bassert\\b", "->", "::",
            "\\bException\\b", "Exact\\(", "\"\" \\+", "\\+ \"\"", "System\\.(?!arraycopy)", "\\bThread\\b", "static \\{"};
        for (String one : ruledOut) {
            Matcher m = Pattern.compile(one).matcher(code);
            Check.due("no " + one, 0, m.find() ? 1 : 0);
        }
        Matcher method = Pattern.compile("(?m)^( {4}| {8})(?=\\w)[^;={}]*\\([^;={}]*\\) \\{\n(?s:.*?)\n\\1\\}").matcher(code);
        while (method.find()) {
            int lines = method.group().split("\n").length;
            Check.due("short: " + method.group().split("\n")[0], 1, lines <= 60 ? 1 : 0);
        }
    }
}
