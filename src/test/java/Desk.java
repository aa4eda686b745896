import java.math.BigInteger;
import java.util.ArrayList;
import java.util.List;

/** What the tests do with a desk time and again. */
final class Desk {
  static final int SLOTS = 24;
  private static final BigInteger WORD = BigInteger.ONE.shiftLeft(64);

  private Desk() {}

  static void put(LadderSigns x, int slot, BigInteger number) {
    for (int i = 0; i < 4; i++) x.set(slot, i, number.shiftRight(64 * i).longValue());
  }

  static void put(LadderSigns x, int slot, long number) {
    put(x, slot, BigInteger.valueOf(number));
  }

  /** A new desk with these numbers in the slots 0, 1 and so on. */
  static LadderSigns with(BigInteger... numbers) {
    LadderSigns x = new LadderSigns();
    for (int i = 0; i < numbers.length; i++) put(x, i, numbers[i]);
    return x;
  }

  static BigInteger get(LadderSigns x, int slot) {
    return number(x.word(slot, 0), x.word(slot, 1), x.word(slot, 2), x.word(slot, 3));
  }

  /** The number of some words without a sign, the lowest first. */
  static BigInteger number(long... words) {
    BigInteger all = BigInteger.ZERO;
    for (int i = words.length - 1; i >= 0; i--) {
      BigInteger word = BigInteger.valueOf(words[i]);
      all = all.shiftLeft(64).add(word.signum() < 0 ? word.add(WORD) : word);
    }
    return all;
  }

  static void write(LadderSigns x, byte[] text) {
    x.clear();
    for (int i = 0; i < text.length; i += 8) {
      int n = Math.min(8, text.length - i);
      long w = 0;
      for (int j = n - 1; j >= 0; j--) w = w << 8 | text[i + j] & 255;
      x.type(w, n);
    }
  }

  /** The number whose bytes a row of hex digits tells, the lowest byte first. */
  static BigInteger hex(String digits) {
    return number(bytes(digits));
  }

  static byte[] bytes(String digits) {
    byte[] out = new byte[digits.length() / 2];
    for (int i = 0; i < out.length; i++) {
      out[i] = (byte) Integer.parseInt(digits.substring(2 * i, 2 * i + 2), 16);
    }
    return out;
  }

  static BigInteger number(byte[] lowestFirst) {
    byte[] turned = new byte[lowestFirst.length];
    for (int i = 0; i < turned.length; i++) turned[i] = lowestFirst[turned.length - 1 - i];
    return new BigInteger(1, turned);
  }

  static byte[] row(BigInteger number, int length) {
    byte[] out = new byte[length];
    for (int i = 0; i < length; i++) out[i] = number.shiftRight(8 * i).byteValue();
    return out;
  }

  static BigInteger two(int power) {
    return BigInteger.ONE.shiftLeft(power);
  }

  /** Uses up work without a multiplication: an S that is not below L is judged at once. */
  static void spend(LadderSigns x, int units) {
    BigInteger kept = get(x, 23);
    x.set(23, 3, -1L);
    for (int i = 0; i + 2 <= units; i += 2) x.judge(0, 22);
    put(x, 23, kept);
    if (units % 2 == 1) {
      kept = get(x, 0);
      x.base(0, 0);
      put(x, 0, kept);
    }
  }

  /** All that can be seen of a desk, in some 120 calls; THE TEXT by what digest makes of it. */
  static List<Object> seen(LadderSigns x) {
    List<Object> all = new ArrayList<>();
    for (int s = 0; s < SLOTS; s++) all.add(get(x, s));
    for (int what = 0; what < 5; what++) all.add((long) x.count(what));
    x.digest(0);
    all.add(get(x, 0));
    all.add(get(x, 1));
    return all;
  }
}
