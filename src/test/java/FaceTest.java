import java.lang.reflect.Constructor;
import java.lang.reflect.Field;
import java.lang.reflect.Method;
import java.lang.reflect.Modifier;
import java.nio.charset.StandardCharsets;
import java.nio.file.Files;
import java.nio.file.Path;
import java.util.TreeSet;

/** The public face, the rules of the language that can be seen from outside, and the room that calls take. */
public final class FaceTest {
    private static final String FACE = "of(int,int) as(int,int) row(int,int) under(int,int,int) cell(int,int) "
        + "tap(int,int,int,int) shut(int,boolean) dawn(int) flow(int,int,int) pipe(int,int) scale(int) feed(long,int) "
        + "text(int) force(int,int,int) why(int,int,int) taker(int,int,int,int,int) sell(int,int,int,int) "
        + "whose(int,int,int) used(int,int) lapsed(int,int) mix(int) want(int,int) look(int,int,int,int) off(int) "
        + "drop(int,int) cause(int,int) tire(int,int) shake(int,int) push(int,int) shift(int) place(int) tried(int,int) "
        + "image() undo() count(int)";

    private static void face() {
        TreeSet<String> want = new TreeSet<>();
        for (String m : FACE.split(" ")) {
            want.add(m);
        }
        TreeSet<String> names = new TreeSet<>();
        want.forEach(m -> names.add(m.substring(0, m.indexOf('('))));
        for (Method m : HotSprings.class.getDeclaredMethods()) {
            StringBuilder s = new StringBuilder(m.getName()).append('(');
            for (Class<?> p : m.getParameterTypes()) {
                s.append(s.charAt(s.length() - 1) == '(' ? "" : ",").append(p.getName());
            }
            if (!Modifier.isPrivate(m.getModifiers())) {
                Due.due("answer of " + s, m.getReturnType() == int.class ? 1 : 0, 1);
                Due.due("face has " + s, want.remove(s.append(')').toString()) ? 1 : 0, 1);
            } else {
                Due.due("private " + s + " bears a public name", names.contains(m.getName()) ? 1 : 0, 0);
            }
            Due.due("parameters of " + s, m.getParameterCount() <= 7 ? 1 : 0, 1);
        }
        Due.due("missing: " + want, want.size(), 0);
    }

    private static void members() throws ReflectiveOperationException {
        Due.due("final", HotSprings.class.getModifiers(), Modifier.PUBLIC | Modifier.FINAL);
        Constructor<?>[] made = HotSprings.class.getDeclaredConstructors();
        Due.due("constructors", made.length, 1);
        Due.due("public constructor", made[0].getModifiers(), Modifier.PUBLIC);
        String constants = "";
        for (Field f : HotSprings.class.getDeclaredFields()) {
            if (!Modifier.isPrivate(f.getModifiers())) {
                constants += f.getName() + "=" + f.getInt(null) + " ";
            }
        }
        Due.due("constants: " + constants, constants.equals("NONE=-1 BAD=-2 STATE=-3 FULL=-4 ") ? 1 : 0, 1);
        int classes = 1;
        for (Class<?> c : HotSprings.class.getDeclaredClasses()) {
            classes++;
            Due.due(c + " is private and static", c.getModifiers() & 15, Modifier.PRIVATE | Modifier.STATIC);
            int fields = 0;
            for (Field f : c.getDeclaredFields()) {
                fields += Modifier.isStatic(f.getModifiers()) ? 0 : 1;
            }
            Due.due(c + " has " + fields + " fields", fields <= 20 ? 1 : 0, 1);
        }
        Due.due(classes + " classes", classes <= 12 ? 1 : 0, 1);
    }

    /** The classes inside, too: no method bears a name of the face's, and what is static is never changed. */
    private static void inside() {
        TreeSet<String> names = new TreeSet<>();
        for (String m : FACE.split(" ")) {
            names.add(m.substring(0, m.indexOf('(')));
        }
        for (Class<?> c : HotSprings.class.getDeclaredClasses()) {
            for (Method m : c.getDeclaredMethods()) {
                Due.due(m + " bears a public name", names.contains(m.getName()) ? 1 : 0, 0);
                Due.due("parameters of " + m, m.getParameterCount() <= 7 ? 1 : 0, 1);
            }
            statics(c);
        }
        statics(HotSprings.class);
    }

    private static void statics(Class<?> c) {
        for (Field f : c.getDeclaredFields()) {
            if (Modifier.isStatic(f.getModifiers())) {
                Due.due(f + " is final", Modifier.isFinal(f.getModifiers()) ? 1 : 0, 1);
                Due.due(f + " is a number or a row of them", f.getType() == int.class || f.getType() == int[].class ? 1 : 0, 1);
            }
        }
    }

    private static void words(String file) throws java.io.IOException {
        String source = Files.readString(Path.of(file), StandardCharsets.ISO_8859_1);
        String code = source.replaceAll("(?s)/\\*.*?\\*/", "").replaceAll("//[^\n]*", "").replaceAll("\"[^\"\n]*\"", "\"\"");
        for (String word : new String[] {"throw", "throws", "try", "catch", "finally", "synchronized", "assert", "import", "package",
            "record", "var", "yield", "volatile", "Object", "hashCode", "toString", "Random", "Thread", "Exact"}) {
            Due.due("the word " + word, code.matches("(?s).*\\b" + word + "\\b.*") ? 1 : 0, 0);
        }
        Due.due("lambda", code.contains("->") || code.contains("::") ? 1 : 0, 0);
        for (char c : source.toCharArray()) {
            Due.due("sign " + (int) c, c < 128 ? 1 : 0, 1);
        }
        for (String line : source.split("\n")) {
            Due.due("long line: " + line, line.length() <= 120 ? 1 : 0, 1);
        }
    }

    /** What calls make stands in the room for good, so they make nothing. */
    private static void room() {
        com.sun.management.ThreadMXBean bean =
            (com.sun.management.ThreadMXBean) java.lang.management.ManagementFactory.getThreadMXBean();
        long id = Thread.currentThread().getId();
        bean.getThreadAllocatedBytes(id);
        HotSprings x = new HotSprings();
        calls(x);
        long before = bean.getThreadAllocatedBytes(id);
        HotSprings y = new HotSprings();
        long made = bean.getThreadAllocatedBytes(id) - before;
        Due.due("bytes of a new object: " + made, made < 400_000 ? 1 : 0, 1);
        before = bean.getThreadAllocatedBytes(id);
        calls(y);
        made = bean.getThreadAllocatedBytes(id) - before;
        Due.due("bytes that calls make: " + made, made < 4096 ? 1 : 0, 1);
    }

    private static final long[] ORDER = {Due.word("rank 5 k"), Due.word("=1&!(n>2"), Due.word("|t=1);sh"), Due.word("are 1   ")};

    private static void calls(HotSprings x) {
        for (int c = 0; c < 12; c++) {
            x.under(2 * c, 0, 50 * c);
            x.under(2 * c, 1, 500 * c);
            x.tap(c % 3, 2 * c, 20 + c, 3);
        }
        for (int t = 0; t < 8; t++) {
            x.taker(t % 6, t, 1 + t % 4, 20 * t, 0);
        }
        for (int i = 0; i < 20; i++) {
            x.dawn(5);
            for (long w : ORDER) {
                x.feed(w, w == ORDER[3] ? 5 : 8);
            }
            if (i % 2 == 0) {
                x.tried(i / 2 % 2, 3);
            } else {
                x.text(i);
            }
            x.mix(3 * i);
            x.want(20, i % 8);
            x.tire(i % 12, 10);
            x.place(30);
            x.cause(30, 0);
            x.shift(0);
            x.image();
            x.undo();
            x.row(i, 0);
            x.look(0, i, i, i);
            x.off(0);
            x.sell(0, 0, 1, i);
            x.whose(0, i, -1);
            x.used(0, i);
            x.lapsed(0, i);
        }
    }

    public static void main(String[] args) throws Exception {
        face();
        members();
        inside();
        words(args.length > 0 ? args[0] : "src/main/java/HotSprings.java");
        room();
        Due.end("FaceTest");
    }
}
