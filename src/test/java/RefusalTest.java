import java.lang.reflect.Method;
import java.math.BigInteger;

/** Every call with every mix of fit and unfit arguments: which refusal comes first, and that it changes nothing. */
public final class RefusalTest {
  private static final long[] SLOT_PLACES = {0, 1, 2, 3, 4, 22, 23, 24, -1, Integer.MIN_VALUE, Integer.MAX_VALUE};
  private static final long[] FEW_PLACES = {0, 1, 3, 23, 24, -1};
  private static final long[] OTHER_INTS = {0, 1, 2, 3, 4, 5, 7, 8, 9, 31, 32, -1, Integer.MIN_VALUE, Integer.MAX_VALUE};
  private static final long[] LONGS = {-1, 0x0123456789abcdefL};
  private static final int[] WORK_LEFT = {400, 2, 1, 0};
  private static final int[] TEXT_LENGTHS = {0, 3, 392, 393, 399, 400};

  public static void main(String[] args) {
    Due due = new Due("RefusalTest");
    for (String name : Both.FACE.keySet()) {
      for (int work : isHeavy(name) ? WORK_LEFT : new int[] {400}) {
        for (int length : name.equals("type") || name.equals("at") ? TEXT_LENGTHS : new int[] {3}) {
          all(due, name, work, length);
        }
      }
    }
    due.end();
  }

  private static boolean isHeavy(String name) {
    return "times base share key sign judge count".contains(name);
  }

  /** Counts through every mix of the arguments that the call's places may have. */
  private static void all(Due due, String name, int work, int length) {
    Method method = Both.FACE.get(name);
    int n = method.getParameterCount();
    long[][] choices = new long[n][];
    long mixes = 1;
    for (int i = 0; i < n; i++) {
      choices[i] = choices(name, method.getParameterTypes()[i], i, n);
      mixes *= choices[i].length;
    }
    for (long mix = 0; mix < mixes; mix++) {
      long[] arguments = new long[n];
      long rest = mix;
      for (int i = 0; i < n; i++) {
        arguments[i] = choices[i][(int) (rest % choices[i].length)];
        rest /= choices[i].length;
      }
      one(due, name, work, length, arguments);
    }
  }

  private static long[] choices(String name, Class<?> type, int place, int places) {
    if (type == long.class) return LONGS;
    boolean isOther = "at count type".contains(name)
        || place == 0 && "field sum".contains(name)
        || place == 1 && "set word about".contains(name)
        || place > 0 && name.equals("flip");
    if (isOther) return OTHER_INTS;
    return places > 2 || isHeavy(name) ? FEW_PLACES : SLOT_PLACES;
  }

  /** The slots: 0 a POINT, 1 no POINT, 2 nothing, 3 what is 0 modulo p, others some numbers. */
  private static void one(Due due, String name, int work, int length, long[] arguments) {
    Both both = new Both(due);
    both.put(0, Model.bytesOf(Model.BASE));
    both.put(1, BigInteger.TWO);
    both.put(3, Model.P);
    both.put(4, Numbers.ALL);
    both.put(22, BigInteger.valueOf(3));
    both.put(23, BigInteger.valueOf(5));
    for (int left = length; left > 0; left -= 8) both.call("type", -3L, Math.min(8, left));
    Desk.spend(both.desk, 400 - work);
    both.model.work = work;
    both.model.judged = (400 - work) / 2;
    both.call(name, arguments);
    both.compare();
  }
}
