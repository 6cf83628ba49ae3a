import java.lang.reflect.InvocationTargetException;
import java.lang.reflect.Method;
import java.lang.reflect.Modifier;
import java.util.ArrayList;
import java.util.Comparator;
import java.util.List;
import java.util.NoSuchElementException;
import java.util.Random;

/** Any numbers in any state: no call throws but what its face tells. */
public final class AnyNumbersTest {
    private static final Due DUE = new Due("AnyNumbersTest");
    private static final int RUNS = 400;
    private static final int MOST_CALLS = 300;
    private static final int[] NUMBERS = {0, 1, 2, 3, 4, 5, 6, 7, 8, 10, 11, 12, 13, 20, 60, 61, 64, 99, 100, 200, 201, 255, 256,
        500, 512, 540, 541, 1000, 1234, 4095, 4096, 65536, 1 << 24, 1 << 30, 1 << 31, Integer.MAX_VALUE, -1, -2, -60, -200, -201,
        -1000, Integer.MIN_VALUE + 1, 0x00010102, 0x61626261, 0x3b3b3b3b};
    private static final String[] TEXTS = {"", "die a 60 60 0;die b 0;let c = a - b;let d = 6 of 33 + 2;", "die a 1 2 3 4 5 6 7 8;",
        "die a 2 4 9;die b 1 6 8;die c 3 5 7;let d = high(a, 3 of b);let e = -60-60-60-20;",
        "let a=1;let b=1;let c=1;let d=1;let e=1;let f=1;let g=1;let h=1;let i=1;let j=1;let k=1;let l=1;"};

    public static void main(String[] args) {
        List<Method> face = new ArrayList<>();
        for (Method method : DiceRing.class.getDeclaredMethods()) {
            if (Modifier.isPublic(method.getModifiers())) {
                face.add(method);
            }
        }
        face.sort(Comparator.comparing(Method::getName));
        for (int seed = 0; seed < RUNS; seed++) {
            run(face, new Random(seed));
        }
        DUE.end();
    }

    private static void run(List<Method> face, Random random) {
        DiceRing x = new DiceRing();
        for (int i = 0; i < MOST_CALLS; i++) {
            if (random.nextInt(40) == 0) {
                Due.tell(x, TEXTS[random.nextInt(TEXTS.length)]);
            }
            Method method = face.get(random.nextInt(face.size()));
            Object[] numbers = new Object[method.getParameterCount()];
            for (int j = 0; j < numbers.length; j++) {
                numbers[j] = random.nextInt(3) > 0 ? NUMBERS[random.nextInt(NUMBERS.length)] : random.nextInt(10);
            }
            call(x, method, numbers);
        }
    }

    private static void call(DiceRing x, Method method, Object[] numbers) {
        String asked = method.getName() + List.of(numbers);
        try {
            DUE.is(asked, method.invoke(x, numbers) != null, true);
        } catch (InvocationTargetException thrown) {
            boolean told = method.getExceptionTypes().length > 0 && thrown.getCause() instanceof NoSuchElementException;
            DUE.is(asked + " threw " + thrown.getCause(), told, true);
        } catch (IllegalAccessException never) {
            DUE.is(asked + " cannot be called", false, true);
        }
    }
}
