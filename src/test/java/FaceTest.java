import java.io.IOException;
import java.lang.reflect.Constructor;
import java.lang.reflect.Field;
import java.lang.reflect.Method;
import java.lang.reflect.Modifier;
import java.nio.file.Files;
import java.nio.file.Path;
import java.util.ArrayList;
import java.util.List;
import java.util.Set;
import java.util.TreeSet;
import java.util.regex.Pattern;

/** The document's face, the language's rules that can be seen from outside, and calls without sense. */
public final class FaceTest {
    private static final Set<String> FACE = Set.of(
        "int feed(int,int,int,int,int)", "boolean end(int)", "int take()", "int fault(int)", "int date(int)",
        "int day(int)", "int months(int,int)", "int go(int)", "int person(int,int,int,int)", "boolean death(int,int)",
        "int wed(int,int,int)", "int court(int,int,int)", "boolean kin(int,int,int,int)", "int mourns(int,int,int)",
        "int depth(int,int,int)", "int last(int,int)", "int edge(int,int)", "boolean may(int,int,int,int)",
        "int deed(int,int)", "int stands(int,int)", "int best(int,int,int,int)", "int first(int,int,int)",
        "int dress(int,int)", "int cloth(int,int)", "boolean hands(int)", "int dye(int,int)", "int make(int,int)",
        "int plan(int,int,int)", "int planned(int,int,int)", "int write(int,int)", "int out(int)", "int quarrel(int,int)",
        "int worn(int,int)", "int told(int,int)", "int count(int)");

    public static void main(String[] args) throws IOException, ReflectiveOperationException {
        face();
        innerClasses();
        source();
        senselessCalls();
        Check.done();
    }

    private static String signature(Method m) {
        List<String> types = new ArrayList<>();
        for (Class<?> c : m.getParameterTypes()) {
            types.add(c.getSimpleName());
        }
        return m.getReturnType().getSimpleName() + " " + m.getName() + "(" + String.join(",", types) + ")";
    }

    private static void face() throws ReflectiveOperationException {
        Class<?> house = MourningHouse.class;
        Check.due("modifiers", house.getModifiers(), Modifier.PUBLIC | Modifier.FINAL);
        Set<String> methods = new TreeSet<>();
        for (Method m : house.getDeclaredMethods()) {
            if (!Modifier.isPrivate(m.getModifiers())) {
                Check.due("modifiers of " + m, m.getModifiers(), Modifier.PUBLIC);
                methods.add(signature(m));
            }
        }
        Check.yes("the face's methods: " + methods, methods.equals(FACE));
        Constructor<?>[] constructors = house.getDeclaredConstructors();
        Check.due("constructors", constructors.length, 1);
        Check.due("its modifiers", constructors[0].getModifiers(), Modifier.PUBLIC);
        Check.due("its parameters", constructors[0].getParameterCount(), 0);
        for (Field f : house.getDeclaredFields()) {
            boolean constant = f.getName().equals("NONE");
            Check.yes("field " + f, constant == !Modifier.isPrivate(f.getModifiers()));
        }
        Field none = house.getField("NONE");
        Check.due("NONE's modifiers", none.getModifiers(), Modifier.PUBLIC | Modifier.STATIC | Modifier.FINAL);
        Check.due("NONE", none.getInt(null), -1);
    }

    private static void innerClasses() {
        Set<String> names = new TreeSet<>();
        for (String s : FACE) {
            names.add(s.replaceAll("^\\S+ |\\(.*", ""));
        }
        Class<?>[] inner = MourningHouse.class.getDeclaredClasses();
        Check.yes("some twelve classes", inner.length <= 13);
        for (Class<?> c : inner) {
            Check.yes(c + " is static", Modifier.isStatic(c.getModifiers()) && !Modifier.isPublic(c.getModifiers()));
            for (Method m : c.getDeclaredMethods()) {
                Check.no(m + " bears a public one's name", Modifier.isPrivate(m.getModifiers()) && names.contains(m.getName()));
                Check.yes(m + " takes seven at most", m.getParameterCount() <= 7);
            }
            int fields = 0;
            for (Field f : c.getDeclaredFields()) {
                if (Modifier.isStatic(f.getModifiers())) {
                    Check.yes(f + " is final", Modifier.isFinal(f.getModifiers()));
                } else {
                    fields++;
                }
            }
            Check.yes(c + " has some twenty fields", fields <= 22);
        }
        for (Method m : MourningHouse.class.getDeclaredMethods()) {
            Check.no(m + " bears a public one's name", Modifier.isPrivate(m.getModifiers()) && names.contains(m.getName()));
        }
    }

    private static void source() throws IOException {
        String text = Files.readString(Path.of("src/main/java/MourningHouse.java"));
        Check.yes("signs 1 to 127", text.chars().allMatch(c -> c >= 1 && c <= 127));
        String code = text.replaceAll("/\\*\\*(?s:.*?)\\*/", "").replaceAll("//[^\n]*", "").replaceAll("\"[^\"\n]*\"", "\"\"");
        String[] banned = {"throw", "throws", "try", "catch", "synchronized", "assert", "package", "Thread", "Random", "Map",
            "HashMap", "Set", "HashSet", "Stream", "Optional", "Scanner", "File", "Exception", "Object", "Objects", "\\w+Exact"};
        for (String word : banned) {
            Check.no(word + " is in the source", Pattern.compile("\\b" + word + "\\b").matcher(code).find());
        }
        Check.no("a method reference is in the source", code.contains("::"));
        Check.no("a lambda is in the source", Pattern.compile("(?m)^(?!\\s*(case|default)\\b).*->").matcher(code).find());
        Check.no("a static block is in the source", Pattern.compile("\\bstatic\\s*\\{").matcher(code).find());
        Check.no("System does more than copy", Pattern.compile("\\bSystem\\b(?!\\.arraycopy)").matcher(code).find());
    }

    /** Every call with arguments from the edges of all that they may be, in several states: none may throw. */
    private static void senselessCalls() throws ReflectiveOperationException {
        int[] odd = {Integer.MIN_VALUE, -36525, -36524, -2, -1, 0, 1, 3, 39, 73047, 73048, 18000101, Integer.MAX_VALUE};
        for (Method m : MourningHouse.class.getDeclaredMethods()) {
            if (!Modifier.isPublic(m.getModifiers())) {
                continue;
            }
            int count = m.getParameterCount();
            int all = 1;
            for (int i = 0; i < Math.min(count, 4); i++) {
                all *= odd.length;
            }
            MourningHouse h = null;
            for (int i = 0; i < all; i += count >= 4 ? 7 : 1) {
                if (h == null || i % 400 < 7) {
                    h = furnished(i);
                }
                Object[] values = new Object[count];
                int rest = i;
                for (int v = 0; v < count; v++) {
                    values[v] = odd[rest % odd.length];
                    rest /= odd.length;
                }
                m.invoke(h, values);
            }
        }
    }

    private static MourningHouse furnished(int i) {
        MourningHouse h = new MourningHouse();
        if (i % 2 == 0) {
            Check.take(h, "for father: black 10 days, grey 999 years; wait\nfor child: crape 1 months; news\n"
                + "feast 2.29 to grey\nheir 400 days to grey\nunder 30 to grey\nwedding ends lilac\nmay wed from grey");
        }
        h.person(10, -1, -1, -36524);
        h.person(0, 0, -1, -36524);
        h.person(0, 0, -1, 0);
        h.person(10, 0, 1, 0);
        h.go(i % 5);
        h.death(0, 0);
        h.death(3, 0);
        h.wed(0, 1, 0);
        h.deed(1, 1);
        h.court(73047, 400, 4);
        h.dress(1, 1);
        h.cloth(1, 1);
        h.make(1, 1);
        h.dye(0, 3);
        h.write(0, 0);
        return h;
    }
}
