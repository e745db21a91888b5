import java.lang.reflect.InvocationTargetException;
import java.lang.reflect.Method;
import java.lang.reflect.Modifier;
import java.util.ArrayList;
import java.util.Comparator;
import java.util.List;
import java.util.Random;

/** Wild numbers to every call in any state: nothing is thrown, and what is refused changes nothing. */
public final class WildTest {
  private static final int[] WILD = {
    Integer.MIN_VALUE, Integer.MIN_VALUE + 1, -1000, -101, -7, -2, 7, 8, 10, 12, 13, 20, 21, 27, 28, 39, 40, 41, 59, 60,
    61, 99, 100, 180, 181, 1000, Integer.MAX_VALUE - 1, Integer.MAX_VALUE};
  private static final int RUNS = 300, CALLS = 512;

  public static void main(String[] args) throws IllegalAccessException {
    Due due = new Due();
    List<Method> calls = new ArrayList<>();
    for (Method m : FerryChange.class.getDeclaredMethods()) {
      if (Modifier.isPublic(m.getModifiers())) {
        calls.add(m);
      }
    }
    calls.sort(Comparator.comparing(Method::getName));
    due.is("calls", calls.size(), 39);
    for (int run = 0; run < RUNS; run++) {
      Random random = new Random(run);
      FerryChange x = run % 3 == 0 ? new FerryChange() : Due.ferry("p5550 b8551 l5550 w5551 s8550 c5551");
      for (int k = 0; k < CALLS; k++) {
        one(due, random, x, calls.get(random.nextInt(calls.size())), run % 5 == 0);
      }
    }
    due.end();
  }

  private static void one(Due due, Random random, FerryChange x, Method call, boolean wild) throws IllegalAccessException {
    Object[] numbers = new Object[call.getParameterCount()];
    StringBuilder name = new StringBuilder(call.getName());
    for (int k = 0; k < numbers.length; k++) {
      boolean far = wild || random.nextInt(6) == 0;
      numbers[k] = far ? WILD[random.nextInt(WILD.length)] : random.nextInt(8) - 1;
      name.append(' ').append(numbers[k]);
    }
    long digest = x.digest();
    int asked = x.asked();
    long upper = x.upper();
    long lower = x.lower();
    Object answer;
    try {
      answer = call.invoke(x, numbers);
    } catch (InvocationTargetException e) {
      due.is(name + " threw " + e.getCause(), 1, 0);
      return;
    }
    if (isRefusal(call.getName(), ((Number) answer).longValue())) {
      boolean same = digest == x.digest() && asked == x.asked() && upper == x.upper() && lower == x.lower();
      due.is(name + " was refused and changed something", same ? 0 : 1, 0);
    }
  }

  private static boolean isRefusal(String call, long answer) {
    if (call.equals("changes")) {
      return answer == -100;
    }
    return answer < 0;
  }
}
