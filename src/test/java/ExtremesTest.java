import java.lang.reflect.InvocationTargetException;
import java.lang.reflect.Method;
import java.lang.reflect.Modifier;
import java.util.Arrays;
import java.util.Comparator;
import java.util.Random;

/** No call may ever throw, whatever its numbers are and however the object stands. */
public final class ExtremesTest {
    private static final int RUNS = 400;
    private static final int[] NUMBERS = {Integer.MIN_VALUE, Integer.MIN_VALUE + 1, -100000, -33, -32, -31, -9, -8, -3,
        -2, -1, 0, 1, 2, 3, 4, 5, 6, 7, 8, 9, 10, 20, 31, 32, 33, 40, 60, 61, 63, 64, 65, 100, 400, 999, 99999, 65536,
        0x61736b20, 0x5b5b5b5b, 0x20202020, 0x3b3b3b3b, Integer.MAX_VALUE - 1, Integer.MAX_VALUE};
    private static final String REALM = "realm 9 9;question 99 0 60;question 0 0 0;question 7 3 9;question 96 1 60;"
            + "question 95 0 60;question 94 2 2;question 93 0 60;question 92 0 60;alike 0 7;alike 1 2;wakes 2";

    private ExtremesTest() {
    }

    public static void main(String[] args) throws IllegalAccessException {
        Method[] methods = Arrays.stream(OneDecision.class.getDeclaredMethods())
                .filter(method -> Modifier.isPublic(method.getModifiers()))
                .sorted(Comparator.comparing(Method::getName)).toArray(Method[]::new);
        int wrong = 0;
        for (int run = 0; run < RUNS && wrong < 5; run++) {
            Random random = new Random(run);
            OneDecision x = new OneDecision();
            for (int i = 0; i < 500; i++) {
                if (i % 100 == run % 100) {
                    Texts.realm(x, REALM);
                    Texts.rule(x, "ask brings/left*left%worth if left<3;ask 99999*99999*99999*99999*question");
                }
                Method method = methods[random.nextInt(methods.length)];
                Object[] numbers = new Object[method.getParameterCount()];
                for (int j = 0; j < numbers.length; j++) {
                    numbers[j] = NUMBERS[random.nextInt(NUMBERS.length)];
                }
                try {
                    method.invoke(x, numbers);
                } catch (InvocationTargetException thrown) {
                    wrong++;
                    System.out.println(method.getName() + Arrays.toString(numbers) + " threw " + thrown.getCause());
                }
            }
        }
        System.exit(wrong == 0 ? 0 : 1);
    }
}
