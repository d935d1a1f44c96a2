import java.lang.reflect.Constructor;
import java.lang.reflect.Field;
import java.lang.reflect.Method;
import java.lang.reflect.Modifier;
import java.util.Arrays;
import java.util.Random;
import java.util.TreeSet;

/** The face is the document's and no more, and no call throws what the document does not name for it. */
public final class FaceTest {
    private static final String[] FACE = {
        "void grant(int, int, int) IllegalArgumentException IllegalStateException",
        "void join() IllegalStateException",
        "int feed(int, long) IllegalArgumentException IllegalStateException",
        "int open(int, boolean) IllegalArgumentException IllegalStateException",
        "int write(int, int) IllegalArgumentException",
        "boolean finish(int, int) IllegalArgumentException",
        "boolean reset(int, int, long) IllegalArgumentException",
        "boolean stop(int, int, long) IllegalArgumentException",
        "int read(int, int, int) IllegalArgumentException",
        "int fill(int, int) IllegalArgumentException IllegalStateException",
        "int deliver(int) NoSuchElementException",
        "void gone(int, boolean) NoSuchElementException IllegalStateException",
        "int take(int, int, long, long, long) IllegalArgumentException IllegalStateException",
        "long line(int, int) NoSuchElementException",
        "int data(int, int) NoSuchElementException",
        "long outs(int) NoSuchElementException",
        "long stream(int, int, int) IllegalArgumentException",
        "long side(int, int) IllegalArgumentException",
    };

    private static int wrong = 0;

    public static void main(String[] args) throws Exception {
        membersAreTheFace();
        for (int seed = 0; seed < 400; seed++) {
            onlyTheFacesExceptions(seed);
        }
        System.out.println(wrong == 0 ? "FaceTest: all is as due" : "FaceTest: " + wrong + " faults");
        if (wrong != 0) {
            System.exit(1);
        }
    }

    private static void check(boolean fine, String what) {
        if (!fine) {
            wrong++;
            System.out.println("FaceTest: " + what);
        }
    }

    private static void membersAreTheFace() {
        check(Modifier.isFinal(StreamHall.class.getModifiers()), "the class is final");
        TreeSet<String> open = new TreeSet<>();
        TreeSet<String> names = new TreeSet<>();
        for (String line : FACE) {
            names.add(line.substring(line.indexOf(' ') + 1, line.indexOf('(')));
        }
        for (Method m : StreamHall.class.getDeclaredMethods()) {
            if (Modifier.isPrivate(m.getModifiers())) {
                check(!names.contains(m.getName()), "a private method bears the name " + m.getName());
            } else {
                open.add(asText(m));
            }
        }
        check(open.equals(new TreeSet<>(Arrays.asList(FACE))), "the face is " + open);
        Constructor<?>[] made = StreamHall.class.getDeclaredConstructors();
        check(made.length == 1 && made[0].getParameterCount() == 0 && Modifier.isPublic(made[0].getModifiers()),
            "one public constructor");
        for (Field f : StreamHall.class.getDeclaredFields()) {
            check(Modifier.isPrivate(f.getModifiers()), "the field " + f.getName() + " is not private");
        }
    }

    private static String asText(Method m) {
        StringBuilder text = new StringBuilder(m.getReturnType() + " " + m.getName() + "(");
        for (Class<?> p : m.getParameterTypes()) {
            text.append(text.charAt(text.length() - 1) == '(' ? "" : ", ").append(p);
        }
        text.append(")");
        for (Class<?> e : m.getExceptionTypes()) {
            text.append(" ").append(e.getSimpleName());
        }
        return text.toString();
    }

    /** More calls than the document answers for, with arguments from everywhere. */
    private static void onlyTheFacesExceptions(long seed) throws Exception {
        Random random = new Random(seed);
        StreamHall hall = new StreamHall();
        Method[] all = StreamHall.class.getMethods();
        Arrays.sort(all, (m, n) -> m.getName().compareTo(n.getName()));
        if (seed % 2 == 0) {
            hall.join();
        }
        for (int call = 0; call < 3000; call++) {
            Method m = all[random.nextInt(all.length)];
            if (m.getDeclaringClass() != StreamHall.class) {
                continue;
            }
            try {
                m.invoke(hall, arguments(m, random));
            } catch (java.lang.reflect.InvocationTargetException e) {
                check(Arrays.asList(m.getExceptionTypes()).contains(e.getCause().getClass()),
                    "seed " + seed + ": " + m.getName() + " throws " + e.getCause());
            }
        }
    }

    private static Object[] arguments(Method m, Random random) {
        Class<?>[] types = m.getParameterTypes();
        Object[] values = new Object[types.length];
        for (int i = 0; i < types.length; i++) {
            if (types[i] == boolean.class) {
                values[i] = random.nextBoolean();
            } else if (types[i] == int.class) {
                values[i] = (int) anything(random, Integer.MIN_VALUE, Integer.MAX_VALUE);
            } else {
                values[i] = anything(random, Long.MIN_VALUE, Long.MAX_VALUE);
            }
        }
        return values;
    }

    private static long anything(Random random, long least, long most) {
        switch (random.nextInt(24)) {
            case 0: return least;
            case 1: return most;
            case 2: return random.nextLong();
            case 3: return -1;
            case 4: return 255 + random.nextInt(3);
            case 5: return 65535 + random.nextInt(3);
            case 6: return 63 + random.nextInt(3);
            case 7: return 2047 + random.nextInt(3);
            case 8: return 1199 + random.nextInt(3);
            case 9: return 4611686018427387902L + random.nextInt(3);
            case 10: return random.nextInt(256);
            default: return random.nextInt(random.nextInt(24) + 1);
        }
    }
}
