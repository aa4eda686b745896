import java.math.BigInteger;
import java.util.ArrayList;
import java.util.Arrays;
import java.util.List;

/** A run of calls on one desk, each with the answer that is due; a wrong one is told with the calls before it. */
final class Run {
  private static final int MOST_CALLS = 512;

  private final LadderSigns desk = new LadderSigns();
  private final Due due;
  private final StringBuilder told = new StringBuilder();
  private int calls = 0;

  /** The numbers come into the slots 0, 1 and so on. */
  Run(Due due, BigInteger... numbers) {
    this.due = due;
    for (int s = 0; s < numbers.length; s++) put(s, numbers[s]);
  }

  private long answer(String name, long... arguments) {
    if (++calls > MOST_CALLS) throw new IllegalStateException("a desk is for " + MOST_CALLS + " calls");
    return Both.answer(Both.FACE.get(name), desk, arguments);
  }

  void is(long want, String name, long... arguments) {
    long got = answer(name, arguments);
    told.append(name).append(Arrays.toString(arguments)).append(' ');
    due.is(told.toString(), got, want);
  }

  /** A call that is not what the test is about. */
  void make(String name, long... arguments) {
    answer(name, arguments);
    told.append(name).append(Arrays.toString(arguments)).append(' ');
  }

  void put(int slot, BigInteger number) {
    for (int i = 0; i < 4; i++) answer("set", slot, i, number.shiftRight(64 * i).longValue());
    told.append(slot).append(":=").append(number).append(' ');
  }

  BigInteger get(int slot) {
    long[] words = new long[4];
    for (int i = 0; i < 4; i++) words[i] = answer("word", slot, i);
    return Desk.number(words);
  }

  void has(int slot, BigInteger want) {
    due.same(told + "then slot " + slot, get(slot), want);
  }

  void has(int slot, long want) {
    has(slot, BigInteger.valueOf(want));
  }

  /** THE TEXT gets so many bytes more, each of this value. */
  void type(int value, int bytes) {
    for (int left = bytes; left > 0; left -= 8) answer("type", value * 0x0101010101010101L, Math.min(8, left));
    told.append("type of ").append(bytes).append(" bytes ");
  }

  /** Uses WORK up but for so many units, by judging what is wrong at a glance: an S not below L. */
  void leaveWork(int units) {
    BigInteger kept = get(23);
    put(23, Numbers.ALL);
    long left = answer("count", 1);
    for (; left >= units + 2; left -= 2) answer("judge", 0, 22);
    if (left > units) answer("base", 0, 23);
    put(23, kept);
    told.append("WORK down to ").append(units).append(' ');
  }

  /** All that can be seen of the desk, in 101 calls and one for each byte of THE TEXT. */
  List<Object> all() {
    List<Object> all = new ArrayList<>();
    for (int s = 0; s < Desk.SLOTS; s++) all.add(get(s));
    for (int what = 0; what < 5; what++) all.add(answer("count", what));
    for (long i = answer("count", 0) - 1; i >= 0; i--) all.add(answer("at", i));
    return all;
  }

  void stays(List<Object> before) {
    due.same(told + "then all of the desk", all(), before);
  }
}
