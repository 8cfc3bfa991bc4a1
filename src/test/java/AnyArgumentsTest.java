import java.lang.reflect.InvocationTargetException;
import java.lang.reflect.Method;
import java.lang.reflect.Modifier;
import java.util.ArrayList;
import java.util.Arrays;
import java.util.Comparator;
import java.util.List;
import java.util.NoSuchElementException;
import java.util.Random;

/**
 * LANGUAGE.md's rules 6 and 7: whatever the arguments and the state, a call answers, or throws what the document names
 * for it (NoSuchElementException, where the face says so) and nothing else. A call that throws changes nothing of the ROW.
 */
public final class AnyArgumentsTest {
    private static final int OBJECTS = 600;
    private static final int CALLS = 512;
    private static final int[] FAR = {Integer.MIN_VALUE, Integer.MIN_VALUE + 1, -65536, -256, -100, -7, -2, -1, 12, 13, 31, 32, 40,
        41, 60, 61, 63, 64, 80, 81, 100, 101, 255, 65535, 65536, Integer.MAX_VALUE - 1, Integer.MAX_VALUE};
    private static final String[] NETS = {"1", "2ab1", "3ab2bc3", "4ab1bc2cd3ad2", "6ab3bc2cd1de2ef3af1", "5ab1ac2ad3ae1", "6", "7", "2ac1"};
    private static final String[] DAYS = {"", "d", "fa0b1s20", "fa0b9fb1a3fc2d4s60d", "s00", "s61", "fa0a1", "ff3e9s05", "f", "x"};

    private final List<Method> face = new ArrayList<>();
    private final StringBuilder calls = new StringBuilder();
    private long asked = 0;
    private long threw = 0;
    private int wrong = 0;

    private AnyArgumentsTest() {
        for (Method m : SharedAir.class.getDeclaredMethods()) {
            if (Modifier.isPublic(m.getModifiers())) {
                face.add(m);
            }
        }
        face.sort(Comparator.comparing(Method::getName));
    }

    public static void main(String[] args) throws Exception {
        AnyArgumentsTest test = new AnyArgumentsTest();
        for (int i = 1; i <= OBJECTS && test.wrong < 10; i++) {
            test.useOne(new Random(i * 31L));
        }
        if (test.threw == 0 || test.asked < 100L * OBJECTS) {
            test.fault("too little was asked");
        }
        System.out.println(test.asked + " calls, " + test.threw + " threw as the document says, " + test.wrong + " did not answer as it says");
        if (test.wrong != 0) {
            System.exit(1);
        }
    }

    private void fault(String what) {
        wrong++;
        System.out.println(what + " behind " + calls);
    }

    private void useOne(Random random) throws IllegalAccessException {
        SharedAir x = new SharedAir();
        calls.setLength(0);
        int made = 0;
        while (made < CALLS && wrong < 10) {
            if (random.nextInt(12) == 0) {
                String[] texts = random.nextBoolean() ? NETS : DAYS;
                String text = texts[random.nextInt(texts.length)];
                made += write(x, text);
                calls.append('"').append(text).append("\" ");
                call(x, texts == NETS ? "net" : "day");
                made += 3;
            } else {
                Method m = face.get(random.nextInt(face.size()));
                call(x, m, some(random, m));
                made += 3;
            }
        }
    }

    /** THE TEXT is that text; how many calls it took. */
    private static int write(SharedAir x, String text) {
        x.end(0);
        int made = 2;
        for (int p = 0; p < text.length(); p += 4) {
            int v = 0;
            for (int i = 0; i < 4; i++) {
                v = v << 8 | (p + i < text.length() ? text.charAt(p + i) : 0);
            }
            x.sign(v);
            made++;
        }
        x.end(text.length());
        return made;
    }

    /** Arguments that are mostly near, so that states differ, and now and then far out. */
    private static Object[] some(Random random, Method m) {
        Object[] given = new Object[m.getParameterCount()];
        int wild = random.nextInt(3);
        for (int i = 0; i < given.length; i++) {
            given[i] = random.nextInt(3) < wild ? FAR[random.nextInt(FAR.length)] : random.nextInt(7);
        }
        return given;
    }

    private void call(SharedAir x, String name) throws IllegalAccessException {
        for (Method m : face) {
            if (m.getName().equals(name)) {
                call(x, m);
            }
        }
    }

    private void call(SharedAir x, Method m, Object... given) throws IllegalAccessException {
        calls.append(m.getName()).append(Arrays.toString(given)).append(' ');
        asked++;
        int numbers = x.count(5);
        try {
            answered(m, m.invoke(x, given), numbers, x.count(5));
        } catch (InvocationTargetException e) {
            boolean named = m.getExceptionTypes().length == 1 && m.getExceptionTypes()[0] == NoSuchElementException.class;
            threw++;
            if (!named || e.getCause().getClass() != NoSuchElementException.class) {
                fault(m.getName() + Arrays.toString(given) + " threw " + e.getCause());
            }
            if (x.count(5) != numbers) {
                fault(m.getName() + Arrays.toString(given) + " threw and changed the ROW");
            }
        }
    }

    private void answered(Method m, Object answer, int before, int behind) {
        boolean refused = answer.equals(SharedAir.NONE) || answer.equals(-2) || answer.equals(false);
        if (refused && before != behind) {
            fault(m.getName() + " answered " + answer + " and changed the ROW");
        }
        if (behind < 0 || behind > 15) {
            fault("a ROW of " + behind + " numbers");
        }
    }
}
