import java.math.BigInteger;
import java.util.ArrayList;
import java.util.List;
import java.util.Random;

/** Random runs of calls, all promises together: the desk answers what the Model does. */
public final class ModelTest {
  private static final int LIGHT_RUNS = 200;
  private static final int HEAVY_RUNS = 6;
  private static final int WHOLE_LIVES = 4;
  /** Few enough to look at all of the desk afterwards. */
  private static final int CALLS_OF_A_RUN = 380;
  private static final int CALLS_OF_A_LIFE = 512;
  private static final int MOST_CALLS_OF_A_STEP = 4;
  private static final String[] LIGHT = {
    "set", "word", "copy", "type", "clear", "at", "flip", "field", "field", "field", "power", "root",
    "about", "compare", "scalar", "isPoint", "across", "sum", "sum", "small", "other", "digest", "count"
  };
  private static final String[] HEAVY = {"times", "base", "share", "key", "sign", "judge"};

  private static final Random RANDOM = new Random(25519);
  private static final List<BigInteger> CHOSEN = new ArrayList<>();

  public static void main(String[] args) {
    CHOSEN.addAll(Numbers.ends());
    CHOSEN.addAll(Numbers.points());
    CHOSEN.addAll(Numbers.almostPoints());
    Due due = new Due("ModelTest");
    for (int i = 0; i < LIGHT_RUNS; i++) run(due, 3);
    for (int i = 0; i < HEAVY_RUNS; i++) run(due, 50);
    for (int i = 0; i < WHOLE_LIVES; i++) wholeLife(due, 10 * i);
    due.end();
  }

  private static void run(Due due, int heavyInHundred) {
    Both both = new Both(due);
    while (both.calls < CALLS_OF_A_RUN) step(both, heavyInHundred);
    both.compare();
  }

  /** Each of the calls that a desk is for is due to be right, the last one too. */
  private static void wholeLife(Due due, int heavyInHundred) {
    Both both = new Both(due);
    while (both.calls <= CALLS_OF_A_LIFE - MOST_CALLS_OF_A_STEP) step(both, heavyInHundred);
    while (both.calls < CALLS_OF_A_LIFE) any(both, LIGHT[RANDOM.nextInt(LIGHT.length)]);
  }

  private static void step(Both both, int heavyInHundred) {
    int kind = RANDOM.nextInt(100);
    if (kind < heavyInHundred) {
      heavy(both);
    } else if (kind < heavyInHundred + 15) {
      both.put(RANDOM.nextInt(Desk.SLOTS), number());
    } else {
      any(both, LIGHT[RANDOM.nextInt(LIGHT.length)]);
    }
  }

  private static void heavy(Both both) {
    String name = HEAVY[RANDOM.nextInt(HEAVY.length)];
    if (name.equals("judge") && RANDOM.nextInt(4) > 0) {
      signAndJudge(both);
    } else {
      any(both, name);
    }
  }

  /** A SIGNATURE that is right, at times with a bit turned round after it. */
  private static void signAndJudge(Both both) {
    int s = RANDOM.nextInt(4);
    int a = 4 + RANDOM.nextInt(4);
    int r = 8 + RANDOM.nextInt(15);
    both.call("key", s, a);
    both.call("sign", s, r);
    if (RANDOM.nextBoolean()) {
      int[] places = {a, r, r + 1};
      both.call("flip", places[RANDOM.nextInt(3)], RANDOM.nextInt(32), RANDOM.nextInt(8));
    }
    both.call("judge", a, r);
  }

  private static void any(Both both, String name) {
    Class<?>[] types = Both.FACE.get(name).getParameterTypes();
    long[] arguments = new long[types.length];
    for (int i = 0; i < types.length; i++) {
      arguments[i] = types[i] == long.class ? RANDOM.nextLong() : argument(name, i);
    }
    both.call(name, arguments);
  }

  private static int argument(String name, int place) {
    boolean small = name.equals("at") || name.equals("count") || name.equals("type")
        || place == 0 && (name.equals("field") || name.equals("sum"))
        || place == 1 && (name.equals("set") || name.equals("word") || name.equals("about"))
        || place > 0 && name.equals("flip");
    int kind = RANDOM.nextInt(60);
    if (kind == 0) return RANDOM.nextInt();
    if (kind == 1) return -1;
    if (kind == 2) return Desk.SLOTS;
    if (name.equals("flip") && place == 1) return RANDOM.nextInt(33);
    if (name.equals("at")) return RANDOM.nextInt(50);
    return RANDOM.nextInt(small ? 9 - kind % 6 : Desk.SLOTS);
  }

  private static BigInteger number() {
    return RANDOM.nextInt(3) == 0 ? Numbers.any(RANDOM) : CHOSEN.get(RANDOM.nextInt(CHOSEN.size()));
  }
}
