import java.lang.management.ManagementFactory;
import java.lang.reflect.Constructor;
import java.lang.reflect.Field;
import java.lang.reflect.Method;
import java.lang.reflect.Modifier;
import java.nio.file.Files;
import java.nio.file.Path;
import java.util.Set;
import java.util.TreeSet;

/** The class's face, the rules of the language that can be looked up, and that calls make no objects. */
public final class FaceTest {
    private static final Due due = new Due();

    private static final Set<String> FACE = Set.of(
            "int feed(int,int,int,int,int)", "int text(int)", "int fault(int)", "int named(int,int)",
            "int guest(int,int) java.lang.IndexOutOfBoundsException java.util.NoSuchElementException",
            "int act(int,int)", "int grain(int,int)", "long law(int,int)", "int stage(int)", "int change(int,int)",
            "int push(int)", "int go(int)", "int ahead(int,int,int)", "int flour(int)", "int bill(int)",
            "int seats(int,int)", "int enough(int,int)", "int span(int)", "int pushFor(int,int)", "int silence(int)",
            "int game(int,int)", "int rests(int,int,int)", "int rest(int,int,int,int)", "int dearest(int)",
            "long quiet(int,int)", "int see(int,int,boolean)", "int strike(int)", "boolean known(int)",
            "int moods(int)", "int ask(int,int)", "int chance(int,int,int)", "int tried(int,int,int)", "int undo()",
            "int keep()", "int back()", "int count(int)");

    public static void main(String[] args) throws Exception {
        face();
        nested();
        source();
        madeByCalls();
        due.end();
    }

    private static String told(Method method) {
        StringBuilder told = new StringBuilder(method.getReturnType() + " " + method.getName() + "(");
        for (Class<?> type : method.getParameterTypes()) {
            told.append(told.charAt(told.length() - 1) == '(' ? "" : ",").append(type);
        }
        told.append(")");
        Set<String> thrown = new TreeSet<>();
        for (Class<?> type : method.getExceptionTypes()) {
            thrown.add(type.getName());
        }
        for (String name : thrown) {
            told.append(" ").append(name);
        }
        return told.toString();
    }

    private static void face() throws Exception {
        Set<String> found = new TreeSet<>();
        Set<String> names = new TreeSet<>();
        for (Method method : ClapMill.class.getDeclaredMethods()) {
            if (!Modifier.isPrivate(method.getModifiers())) {
                found.add(told(method));
                names.add(method.getName());
                due.is("public: " + method, Modifier.isPublic(method.getModifiers()), true);
            }
        }
        due.is("the face " + found, found.equals(new TreeSet<>(FACE)), true);
        for (Method method : ClapMill.class.getDeclaredMethods()) {
            boolean bears = Modifier.isPrivate(method.getModifiers()) && names.contains(method.getName());
            due.is("a private one bears a public one's name: " + method, bears, false);
        }
        for (Field field : ClapMill.class.getDeclaredFields()) {
            boolean isNone = field.getName().equals("NONE");
            due.is("private: " + field, Modifier.isPrivate(field.getModifiers()), !isNone);
        }
        due.is("NONE", ClapMill.class.getField("NONE").getInt(null), -1);
        due.is("final", Modifier.isFinal(ClapMill.class.getModifiers()), true);
        Constructor<?>[] made = ClapMill.class.getDeclaredConstructors();
        due.is("one constructor", made.length, 1);
        due.is("public, without arguments", Modifier.isPublic(made[0].getModifiers()) && made[0].getParameterCount() == 0, true);
    }

    private static void nested() {
        Class<?>[] nested = ClapMill.class.getDeclaredClasses();
        due.is("classes inside: " + nested.length, nested.length <= 12, true);
        for (Class<?> inside : nested) {
            due.is("static: " + inside, Modifier.isStatic(inside.getModifiers()), true);
            due.is("not public: " + inside, Modifier.isPublic(inside.getModifiers()), false);
            int fields = 0;
            for (Field field : inside.getDeclaredFields()) {
                boolean isStatic = Modifier.isStatic(field.getModifiers());
                fields += isStatic ? 0 : 1;
                due.is("final: " + field, !isStatic || Modifier.isFinal(field.getModifiers()), true);
            }
            due.is("fields of " + inside + ": " + fields, fields <= 20, true);
            for (Method method : inside.getDeclaredMethods()) {
                due.is("parameters of " + method, method.getParameterCount() <= 7, true);
                boolean bears = FACE.stream().anyMatch(face -> face.contains(" " + method.getName() + "("));
                due.is("it bears a public one's name: " + method, bears, false);
            }
        }
    }

    private static void source() throws Exception {
        String source = Files.readString(Path.of("src/main/java/ClapMill.java"));
        for (String word : new String[] {"->", "::", "try", "catch", "finally", "synchronized", "assert", "System.",
            "Exact(", "Object", "HashMap", "instanceof", "float", "double", "package", "Random", "Thread", "volatile"}) {
            boolean isThere = java.util.regex.Pattern.compile("(?<![a-zA-Z])" + java.util.regex.Pattern.quote(word)).matcher(source).find();
            due.is("the source has " + word, isThere, false);
        }
        for (int i = 0; i < source.length(); i++) {
            if (source.charAt(i) > 126) {
                due.is("sign " + i + " of the source", source.charAt(i), 126);
            }
        }
    }

    /** Bytes that a thread has made: calls on one object must not add to them. */
    private static void madeByCalls() {
        com.sun.management.ThreadMXBean threads = (com.sun.management.ThreadMXBean) ManagementFactory.getThreadMXBean();
        ClapMill x = new ClapMill();
        long sum = dearCalls(x);
        long before = threads.getCurrentThreadAllocatedBytes();
        sum += dearCalls(x);
        long made = threads.getCurrentThreadAllocatedBytes() - before;
        due.is("bytes made by calls: " + made, made < 20000, true);
        due.is("the calls answered", sum != 0, true);
    }

    private static long dearCalls(ClapMill x) {
        Due.tell(x, "act a 4 9;act b 2 9;act c 7 9;act d 1 9;guest g 6 8;guest h 2 1;guest i 1 1;guest j 1 1;guest k 1 1;"
                + "guest l 1 1;grain r 1 99 50;show a 0;cough 30;law clap hunger - tired + beside / 2;law turn speed / 2 + beside;");
        long sum = 0;
        for (int i = 0; i < 20; i++) {
            sum += x.ahead(200, 0, 0) + x.flour(999) + x.bill(4) + x.seats(0, 6) + x.enough(0, 99) + x.span(0);
            sum += x.pushFor(60, 99) + x.silence(200) + x.moods(0) + x.ask(1, 0) + x.chance(1, 99, 999) + x.tried(4, 0, 200);
            sum += x.push(1) + x.change(0, 1) + x.keep() + x.see(1, 1, true) + x.undo() + x.go(3) + x.back() + x.quiet(6, 1);
        }
        return sum;
    }
}
