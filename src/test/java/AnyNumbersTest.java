import java.lang.reflect.InvocationTargetException;
import java.lang.reflect.Method;
import java.lang.reflect.Modifier;

/** No call throws, whatever numbers it is asked with: each call with each two of its numbers far off. */
public final class AnyNumbersTest extends Asking {
  private static final int[] NUMBERS = {
    Integer.MIN_VALUE, Integer.MIN_VALUE + 1, -1000, -201, -41, -25, -3, -2, -1, 0, 1, 2, 3, 4, 5, 6, 8, 9, 11,
    12, 19, 20, 23, 24, 25, 26, 27, 39, 40, 41, 72, 199, 200, 201, 999, 1000, 1 << 26, 1 << 27,
    Integer.MAX_VALUE - 40, Integer.MAX_VALUE - 1, Integer.MAX_VALUE
  };
  private static final long[] FAR = {0, -1, 1L << 32, Long.MAX_VALUE, Long.MIN_VALUE, 10460353202L, 10460353203L};
  // Of the calls that are promised of an object, those that remain once it is full.
  private static final int CALLS = 380;

  private static InscribedStones x;
  private static int left;
  private static int asked;

  public static void main(String[] args) throws Exception {
    for (int state = 0; state < 3; state++) {
      for (Method method : InscribedStones.class.getDeclaredMethods()) {
        if (Modifier.isPublic(method.getModifiers())) {
          left = 0;
          askAll(method, state);
        }
      }
    }
    due("calls were made", asked > 10000 ? 1 : 0, 1);
    System.out.println(asked + " calls made");
    Due.end();
  }

  private static void askAll(Method method, int state) throws Exception {
    int n = method.getParameterCount();
    for (int one = 0; one < Math.max(1, n); one++) {
      for (int other = one; other < Math.max(1, n); other++) {
        for (int a : NUMBERS) {
          for (int b : NUMBERS) {
            ask(method, state, one, a, other, b);
          }
        }
      }
    }
  }

  private static void ask(Method method, int state, int one, int a, int other, int b) throws Exception {
    if (left == 0) {
      left = CALLS;
      x = objectIn(state);
    }
    left--;
    asked++;
    Class<?>[] types = method.getParameterTypes();
    Object[] numbers = new Object[types.length];
    StringBuilder told = new StringBuilder(method.getName() + " in state " + state);
    for (int i = 0; i < types.length; i++) {
      int number = i == other ? b : i == one ? a : 0;
      if (types[i] == long.class) {
        numbers[i] = i == other || i == one ? number + FAR[asked % FAR.length] : 1L;
      } else {
        numbers[i] = number;
      }
      told.append(' ').append(numbers[i]);
    }
    try {
      method.invoke(x, numbers);
    } catch (InvocationTargetException e) {
      due(told + " threw " + e.getCause(), 1, 0);
    }
  }

  private static InscribedStones objectIn(int state) {
    InscribedStones made = new InscribedStones();
    if (state >= 1) {
      made.stone(4, 24);
      made.stone(1, 1);
      made.stone(4, 24);
      made.hand(5);
      Due.formula(made, "[a]|abcdefgh abcdefgh abcdef.");
      made.person(1, 1, 0);
      made.tray(0, 40);
    }
    if (state == 2) {
      for (int i = 0; i < 12; i++) {
        made.stone(4, 24);
        made.hand(i % 10);
        Due.formula(made, "a|b.");
        made.person(1, 2, i);
        made.bound(i, (i + 1) % 12, -100);
        made.bound((i + 2) % 12, i, -100);
        made.tray(i % 4, 40);
      }
      made.join(0, 2);
    }
    return made;
  }
}
