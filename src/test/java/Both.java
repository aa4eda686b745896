import java.lang.reflect.Method;
import java.lang.reflect.Modifier;
import java.math.BigInteger;
import java.util.Arrays;
import java.util.HashMap;
import java.util.Map;
import java.util.TreeMap;

/** A desk and a Model that get the same calls; what the desk answers is due to be what the Model does. */
final class Both {
  /** The face's methods by name. */
  static final Map<String, Method> FACE = new TreeMap<>();
  private static final Map<String, Method> MODEL = new HashMap<>();

  static {
    try {
      for (Method m : LadderSigns.class.getDeclaredMethods()) {
        if (!Modifier.isPublic(m.getModifiers())) continue;
        FACE.put(m.getName(), m);
        MODEL.put(m.getName(), Model.class.getDeclaredMethod(m.getName(), m.getParameterTypes()));
      }
    } catch (NoSuchMethodException e) {
      throw new IllegalStateException(e);
    }
  }

  final LadderSigns desk = new LadderSigns();
  final Model model = new Model();
  private final Due due;
  private final StringBuilder told = new StringBuilder();
  int calls = 0;

  Both(Due due) {
    this.due = due;
  }

  /** Makes the call on both; the arguments are told as longs. */
  long call(String name, long... arguments) {
    String call = name + Arrays.toString(arguments);
    long got = answer(FACE.get(name), desk, arguments);
    long want = answer(MODEL.get(name), model, arguments);
    calls++;
    told.append(call).append(' ');
    due.is(got == want ? call : told.toString(), got, want);
    return want;
  }

  void put(int slot, BigInteger number) {
    for (int i = 0; i < 4; i++) call("set", slot, i, number.shiftRight(64 * i).longValue());
  }

  /** All of the desk is due to be as in the Model. The last of a run: it writes over slots 0 and 1. */
  void compare() {
    due.same("all that is seen after " + told, Desk.seen(desk), model.seen());
  }

  static long answer(Method method, Object on, long[] arguments) {
    Class<?>[] types = method.getParameterTypes();
    Object[] given = new Object[types.length];
    for (int i = 0; i < types.length; i++) {
      if (types[i] == int.class) {
        given[i] = (int) arguments[i];
      } else {
        given[i] = arguments[i];
      }
    }
    try {
      return ((Number) method.invoke(on, given)).longValue();
    } catch (ReflectiveOperationException e) {
      throw new IllegalStateException(method.getName() + Arrays.toString(arguments), e);
    }
  }
}
