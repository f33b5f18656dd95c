import java.lang.reflect.InvocationTargetException;
import java.lang.reflect.Method;
import java.lang.reflect.Modifier;
import java.util.Arrays;
import java.util.Comparator;
import java.util.Random;

/** No call throws, whatever its arguments are, in any state; and the same calls give the same answers. */
public final class AnyArgumentsTest {
  private static final int[] ODD = {Integer.MIN_VALUE, Integer.MIN_VALUE + 1, -65, -3, -2, -1, 0, 1, 2, 3, 4, 5, 6,
    7, 8, 9, 12, 13, 15, 16, 23, 24, 25, 63, 64, 127, 128, 255, 256, 1000, 1001, Integer.MAX_VALUE - 1,
    Integer.MAX_VALUE};

  private static int pick(Random dice) {
    return dice.nextInt(3) == 0 ? ODD[dice.nextInt(ODD.length)] : dice.nextInt(8);
  }

  private static long run(Method[] methods, int seed) throws IllegalAccessException {
    Random dice = new Random(seed);
    ThinCoats x = new ThinCoats();
    long sum = 0;
    for (int call = 0; call < 512; call++) {
      Method m = methods[dice.nextInt(methods.length)];
      Object[] args = new Object[m.getParameterCount()];
      for (int i = 0; i < args.length; i++) args[i] = m.getName().equals("feed") ? 0x41423220 : pick(dice);
      try {
        Object got = m.invoke(x, args);
        sum = sum * 31 + (got instanceof Boolean b ? (b ? 1 : 0) : ((Number) got).longValue());
      } catch (InvocationTargetException e) {
        System.out.println("seed " + seed + ": " + m.getName() + Arrays.toString(args) + " threw " + e.getCause());
        System.exit(1);
      }
    }
    return sum;
  }

  public static void main(String[] args) throws IllegalAccessException {
    Method[] methods = Arrays.stream(ThinCoats.class.getDeclaredMethods())
        .filter(m -> Modifier.isPublic(m.getModifiers()))
        .sorted(Comparator.comparing(Method::getName)).toArray(Method[]::new);
    for (int seed = 0; seed < 300; seed++) {
      if (run(methods, seed) != run(methods, seed)) {
        System.out.println("seed " + seed + ": the same calls gave other answers");
        System.exit(1);
      }
    }
    System.out.println("no call threw");
  }
}
