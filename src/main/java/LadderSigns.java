import java.util.Arrays;

/**
 * A desk for the curve over the field of 2^255 - 19: its field, its points, X25519, Ed25519 and SHA-512.
 *
 * <p>Every row that a call works on is made once, by a constructor: a call makes no object at all.
 */
public final class LadderSigns {
  public static final int NONE = -1, UNKNOWN = -101, OUTSIDE = -102, STATE = -103, FULL = -104;

  private static final int SLOTS = 24;
  private static final int ALL_WORK = 400;

  private final long[][] slots;
  private final Text text;
  private int workLeft;
  private int signaturesMade;
  private int judged;
  private int judgedRight;

  private final FieldNumbers numbers;
  private final Scalars scalars;
  private final Curve curve;
  private final Ladder ladder;
  private final Sha512 sha;
  private final Signer signer;

  private final long[] first;
  private final long[] second;
  private final long[] hash;
  private final Point left;
  private final Point right;

  public LadderSigns() {
    slots = new long[SLOTS][Words.COUNT];
    text = new Text();
    workLeft = ALL_WORK;
    signaturesMade = 0;
    judged = 0;
    judgedRight = 0;
    numbers = new FieldNumbers();
    scalars = new Scalars();
    curve = new Curve(numbers);
    ladder = new Ladder(numbers);
    sha = new Sha512();
    signer = new Signer(curve, scalars, sha);
    first = new long[FieldNumbers.LIMBS];
    second = new long[FieldNumbers.LIMBS];
    hash = new long[Sha512.STATE_WORDS];
    left = new Point();
    right = new Point();
  }

  // ---- bytes

  public int set(int s, int i, long w) {
    if (!isSlot(s)) return UNKNOWN;
    if (!isWithin(i, Words.COUNT)) return OUTSIDE;
    slots[s][i] = w;
    return 1;
  }

  public long word(int s, int i) {
    if (!isSlot(s) || !isWithin(i, Words.COUNT)) return 0;
    return slots[s][i];
  }

  public int copy(int s, int t) {
    if (!isSlot(s) || !isSlot(t)) return UNKNOWN;
    Words.move(slots[s], slots[t]);
    return 1;
  }

  public int type(long w, int n) {
    if (n < 1 || n > 8) return OUTSIDE;
    if (n > Text.ROOM - text.length) return FULL;
    text.append(w, n);
    return text.length;
  }

  public int clear() {
    int had = text.length;
    text.length = 0;
    return had;
  }

  public int at(int i) {
    return isWithin(i, text.length) ? text.byteAt(i) : NONE;
  }

  public int flip(int s, int k, int i) {
    if (!isSlot(s)) return UNKNOWN;
    if (!isWithin(k, 32) || !isWithin(i, 8)) return OUTSIDE;
    int place = 8 * k + i;
    slots[s][place >> 6] ^= 1L << (place & 63);
    return Words.bit(slots[s], place);
  }

  // ---- the field

  public int field(int way, int a, int b, int t) {
    if (!isSlot(a) || !isSlot(b) || !isSlot(t)) return UNKNOWN;
    if (!isWithin(way, 4)) return OUTSIDE;
    numbers.load(slots[a], first);
    numbers.load(slots[b], second);
    if (way == 3 && numbers.isZero(second)) return STATE;
    combine(way);
    numbers.store(first, slots[t]);
    return 1;
  }

  public int power(int a, int b, int t) {
    if (!isSlot(a) || !isSlot(b) || !isSlot(t)) return UNKNOWN;
    numbers.load(slots[a], first);
    numbers.raise(first, slots[b], first);
    numbers.store(first, slots[t]);
    return 1;
  }

  public int root(int a, int t) {
    if (!isSlot(a) || !isSlot(t)) return UNKNOWN;
    numbers.load(slots[a], first);
    if (!numbers.findRoot(first, second)) return 0;
    numbers.store(second, slots[t]);
    return 1;
  }

  public int about(int s, int what) {
    if (!isSlot(s)) return UNKNOWN;
    if (!isWithin(what, 5)) return OUTSIDE;
    long[] slot = slots[s];
    numbers.load(slot, first);
    switch (what) {
      case 0: return told(Words.order(slot, FieldNumbers.PRIME) < 0);
      case 1: return told(Scalars.isBelowOrder(slot));
      case 2: return told(numbers.isZero(first));
      case 3: return told(numbers.isOdd(first));
      default: return Words.bitLength(slot);
    }
  }

  public int compare(int a, int b) {
    if (!isSlot(a) || !isSlot(b)) return UNKNOWN;
    return Words.order(slots[a], slots[b]);
  }

  // ---- scalars

  public int scalar(int a, int b, int c, int t) {
    if (!isSlot(a) || !isSlot(b) || !isSlot(c) || !isSlot(t)) return UNKNOWN;
    scalars.multiplyAndAdd(slots[a], slots[b], slots[c], slots[t]);
    return 1;
  }

  // ---- points

  public int isPoint(int s) {
    if (!isSlot(s)) return UNKNOWN;
    return told(curve.read(slots[s], left));
  }

  public int across(int s, int t) {
    if (!isSlot(s) || !isSlot(t)) return UNKNOWN;
    if (!curve.read(slots[s], left)) return NONE;
    numbers.store(left.x, slots[t]);
    return 1;
  }

  public int sum(int way, int a, int b, int t) {
    if (!isSlot(a) || !isSlot(b) || !isSlot(t)) return UNKNOWN;
    if (!isWithin(way, 2)) return OUTSIDE;
    if (!curve.read(slots[a], left) || !curve.read(slots[b], right)) return NONE;
    if (way == 1) curve.negate(right);
    curve.add(left, right, left);
    curve.write(left, slots[t]);
    return 1;
  }

  public int times(int k, int a, int t) {
    if (!isSlot(k) || !isSlot(a) || !isSlot(t)) return UNKNOWN;
    if (workLeft < 1) return STATE;
    if (!curve.read(slots[a], left)) return NONE;
    workLeft -= 1;
    curve.multiply(slots[k], left, right);
    curve.write(right, slots[t]);
    return 1;
  }

  public int base(int k, int t) {
    if (!isSlot(k) || !isSlot(t)) return UNKNOWN;
    if (workLeft < 1) return STATE;
    workLeft -= 1;
    curve.multiply(slots[k], curve.basePoint, right);
    curve.write(right, slots[t]);
    return 1;
  }

  public int small(int a) {
    if (!isSlot(a)) return UNKNOWN;
    if (!curve.read(slots[a], left)) return NONE;
    for (int doublings = 0; doublings < 4; doublings++) {
      if (curve.isNeutral(left)) return doublings;
      curve.twice(left, left);
    }
    return 4;
  }

  public int other(int a, int t) {
    if (!isSlot(a) || !isSlot(t)) return UNKNOWN;
    if (!curve.read(slots[a], left)) return NONE;
    curve.findOtherShape(left, first);
    numbers.store(first, slots[t]);
    return 1;
  }

  // ---- secrets, texts

  public int share(int k, int u, int t) {
    if (!isSlot(k) || !isSlot(u) || !isSlot(t)) return UNKNOWN;
    if (workLeft < 1) return STATE;
    workLeft -= 1;
    numbers.load(slots[u], first);
    ladder.climb(slots[k], first, second);
    numbers.store(second, slots[t]);
    return told(!numbers.isZero(second));
  }

  public int digest(int t) {
    if (!isPair(t)) return UNKNOWN;
    sha.begin();
    sha.takeText(text);
    sha.finish(hash);
    System.arraycopy(hash, 0, slots[t], 0, Words.COUNT);
    System.arraycopy(hash, Words.COUNT, slots[t + 1], 0, Words.COUNT);
    return 1;
  }

  public int key(int s, int t) {
    if (!isSlot(s) || !isSlot(t)) return UNKNOWN;
    if (workLeft < 1) return STATE;
    workLeft -= 1;
    signer.makeKey(slots[s], slots[t]);
    return 1;
  }

  public int sign(int s, int t) {
    if (!isSlot(s) || !isPair(t)) return UNKNOWN;
    if (workLeft < 2) return STATE;
    workLeft -= 2;
    signer.makeSignature(slots[s], text, slots[t], slots[t + 1]);
    signaturesMade++;
    return 1;
  }

  public int judge(int a, int r) {
    if (!isSlot(a) || !isPair(r)) return UNKNOWN;
    if (workLeft < 2) return STATE;
    workLeft -= 2;
    judged++;
    if (!signer.isRight(slots[a], slots[r], slots[r + 1], text)) return 0;
    judgedRight++;
    return 1;
  }

  // ---- what is told

  public int count(int what) {
    switch (what) {
      case 0: return text.length;
      case 1: return workLeft;
      case 2: return signaturesMade;
      case 3: return judged;
      case 4: return judgedRight;
      default: return OUTSIDE;
    }
  }

  private static boolean isSlot(int s) {
    return isWithin(s, SLOTS);
  }

  private static boolean isPair(int t) {
    return isWithin(t, SLOTS - 1);
  }

  private static boolean isWithin(int i, int bound) {
    return i >= 0 && i < bound;
  }

  private static int told(boolean holds) {
    return holds ? 1 : 0;
  }

  private void combine(int way) {
    switch (way) {
      case 0:
        numbers.add(first, second, first);
        break;
      case 1:
        numbers.subtract(first, second, first);
        break;
      case 2:
        numbers.multiply(first, second, first);
        break;
      default:
        numbers.invert(second, second);
        numbers.multiply(first, second, first);
        break;
    }
  }

  /** THE TEXT. */
  private static final class Text {
    static final int ROOM = 400;

    final byte[] bytes = new byte[ROOM];
    int length = 0;

    /** The caller has seen that there is room. */
    void append(long w, int n) {
      for (int i = 0; i < n && length < ROOM; i++) {
        bytes[length] = (byte) (w >>> (8 * i));
        length++;
      }
    }

    int byteAt(int i) {
      return bytes[i] & 255;
    }
  }

  /** Numbers below 2^256: rows of four words, the lowest first, each word without a sign. */
  private static final class Words {
    static final int COUNT = 4;
    static final int BITS = 256;
    static final int NIBBLES = 64;
    static final long TOP_BIT = 1L << 63;

    static int bit(long[] row, int i) {
      return (int) (row[i >> 6] >>> (i & 63)) & 1;
    }

    static int nibble(long[] row, int i) {
      return (int) (row[i >> 4] >>> (4 * (i & 15))) & 15;
    }

    static void move(long[] from, long[] to) {
      System.arraycopy(from, 0, to, 0, COUNT);
    }

    static int order(long[] a, long[] b) {
      for (int i = COUNT - 1; i >= 0; i--) {
        // Turning the top bits round makes the order of signed words that of words without a sign.
        if (a[i] != b[i]) return (a[i] ^ TOP_BIT) < (b[i] ^ TOP_BIT) ? -1 : 1;
      }
      return 0;
    }

    static int bitLength(long[] row) {
      for (int i = BITS - 1; i >= 0; i--) {
        if (bit(row, i) == 1) return i + 1;
      }
      return 0;
    }

    static void increase(long[] a, long[] b) {
      long carry = 0;
      for (int i = 0; i < COUNT; i++) {
        long x = a[i];
        long y = b[i];
        long z = x + y + carry;
        carry = ((x & y) | ((x | y) & ~z)) >>> 63;
        a[i] = z;
      }
    }

    static void decrease(long[] a, long[] b) {
      long borrow = 0;
      for (int i = 0; i < COUNT; i++) {
        long x = a[i];
        long y = b[i];
        long z = x - y - borrow;
        borrow = ((~x & y) | ((~x | y) & z)) >>> 63;
        a[i] = z;
      }
    }

    /** What X25519 and Ed25519 both make of the bits of a secret number. */
    static void clamp(long[] row) {
      row[0] &= ~7L;
      row[3] = (row[3] & ~TOP_BIT) | (1L << 62);
    }
  }

  /**
   * Numbers modulo 2^255 - 19: rows of ten limbs of 26 bits, the lowest first.
   *
   * <p>A limb may be below 0 or a little too high: products stay exact while every limb that goes
   * into one is within 2^28, which a few additions and subtractions of products never leave.
   */
  private static final class FieldNumbers {
    static final int LIMBS = 10;
    static final long[] PRIME = {
      0xffffffffffffffedL, 0xffffffffffffffffL, 0xffffffffffffffffL, 0x7fffffffffffffffL
    };

    private static final int LIMB_BITS = 26;
    private static final long LIMB_MASK = (1L << LIMB_BITS) - 1;
    /** The highest limb ends where bit 255 begins. */
    private static final int TOP_LIMB_BITS = 21;
    private static final long TOP_LIMB_MASK = (1L << TOP_LIMB_BITS) - 1;
    /** What 2^255 is. */
    private static final long WRAP = 19;
    /** What 2^260, the first limb beyond a row, is. */
    private static final long FOLD = 32 * WRAP;

    private static final long[] INVERTING_POWER = {
      0xffffffffffffffebL, 0xffffffffffffffffL, 0xffffffffffffffffL, 0x7fffffffffffffffL
    };
    /** (p + 3) / 8: of a square, this power is a root of it or of what is minus it. */
    private static final long[] ROOT_POWER = {
      0xfffffffffffffffeL, 0xffffffffffffffffL, 0xffffffffffffffffL, 0x0fffffffffffffffL
    };
    private static final long[] ROOT_OF_MINUS_ONE = {
      0xc4ee1b274a0ea0b0L, 0x2f431806ad2fe478L, 0x2b4d00993dfbd7a7L, 0x2b8324804fc1df0bL
    };

    private final long[] zero = new long[LIMBS];
    private final long[] rootOfMinusOne = new long[LIMBS];
    private final long[] wide = new long[2 * LIMBS];
    private final long[] exact = new long[LIMBS];
    private final long[] difference = new long[LIMBS];
    private final long[] candidate = new long[LIMBS];
    private final long[] itsSquare = new long[LIMBS];
    private final long[][] powers = new long[16][LIMBS];

    FieldNumbers() {
      load(ROOT_OF_MINUS_ONE, rootOfMinusOne);
    }

    /** The number of the lowest 255 bits. */
    void load(long[] words, long[] out) {
      for (int i = 0; i < LIMBS; i++) {
        int word = (LIMB_BITS * i) >> 6;
        int shift = (LIMB_BITS * i) & 63;
        long bits = words[word] >>> shift;
        if (shift + LIMB_BITS > 64 && word + 1 < Words.COUNT) bits |= words[word + 1] << (64 - shift);
        out[i] = bits & LIMB_MASK;
      }
      out[LIMBS - 1] &= TOP_LIMB_MASK;
    }

    /** The one number below p that the row stands for. */
    void store(long[] a, long[] words) {
      makeExact(a);
      Arrays.fill(words, 0);
      for (int i = 0; i < LIMBS; i++) {
        int word = (LIMB_BITS * i) >> 6;
        int shift = (LIMB_BITS * i) & 63;
        words[word] |= exact[i] << shift;
        if (shift + LIMB_BITS > 64 && word + 1 < Words.COUNT) words[word + 1] |= exact[i] >>> (64 - shift);
      }
    }

    void move(long[] from, long[] to) {
      System.arraycopy(from, 0, to, 0, LIMBS);
    }

    /** For n within 2^26. */
    void become(long[] a, long n) {
      Arrays.fill(a, 0);
      a[0] = n;
    }

    void add(long[] a, long[] b, long[] out) {
      for (int i = 0; i < LIMBS; i++) out[i] = a[i] + b[i];
    }

    void subtract(long[] a, long[] b, long[] out) {
      for (int i = 0; i < LIMBS; i++) out[i] = a[i] - b[i];
    }

    void negate(long[] a, long[] out) {
      subtract(zero, a, out);
    }

    /** For n within 2^26. */
    void scale(long[] a, long n, long[] out) {
      for (int i = 0; i < LIMBS; i++) out[i] = a[i] * n;
      carry(out);
    }

    void multiply(long[] a, long[] b, long[] out) {
      Arrays.fill(wide, 0);
      for (int i = 0; i < LIMBS; i++) {
        long x = a[i];
        for (int j = 0; j < LIMBS; j++) wide[i + j] += x * b[j];
      }
      fold(out);
      carry(out);
    }

    void square(long[] a, long[] out) {
      Arrays.fill(wide, 0);
      for (int i = 0; i < LIMBS; i++) {
        long x = a[i];
        wide[2 * i] += x * x;
        for (int j = i + 1; j < LIMBS; j++) wide[i + j] += 2 * x * a[j];
      }
      fold(out);
      carry(out);
    }

    /** Brings the upper half of the wide row, at 2^260 and above, down into the lower one. */
    private void fold(long[] out) {
      // Without this carrying first, a fold of the sums as they are would not stay within 64 bits.
      for (int i = 0; i < 2 * LIMBS - 1; i++) {
        wide[i + 1] += wide[i] >> LIMB_BITS;
        wide[i] &= LIMB_MASK;
      }
      for (int i = 0; i < LIMBS; i++) out[i] = wide[i] + FOLD * wide[i + LIMBS];
    }

    private void carry(long[] a) {
      for (int i = 0; i < LIMBS - 1; i++) {
        a[i + 1] += a[i] >> LIMB_BITS;
        a[i] &= LIMB_MASK;
      }
      long above = a[LIMBS - 1] >> TOP_LIMB_BITS;
      a[LIMBS - 1] &= TOP_LIMB_MASK;
      a[0] += WRAP * above;
    }

    private void makeExact(long[] a) {
      move(a, exact);
      // This brings the number within a few thousand of 0 .. p.
      carry(exact);
      // With 19 more, just what is p or above goes over 2^255, and comes back less p.
      exact[0] += WRAP;
      carry(exact);
      // What was below 0 has come back with p more, or does so here.
      exact[0] -= WRAP;
      carry(exact);
    }

    boolean isZero(long[] a) {
      makeExact(a);
      return isNothing(exact);
    }

    boolean areSame(long[] a, long[] b) {
      subtract(a, b, difference);
      makeExact(difference);
      return isNothing(exact);
    }

    private static boolean isNothing(long[] limbs) {
      long all = 0;
      for (int i = 0; i < LIMBS; i++) all |= limbs[i];
      return all == 0;
    }

    boolean isOdd(long[] a) {
      makeExact(a);
      return (exact[0] & 1) == 1;
    }

    /** Any number to the power of 0 is 1, 0 too. */
    void raise(long[] a, long[] exponent, long[] out) {
      become(powers[0], 1);
      move(a, powers[1]);
      for (int i = 2; i < powers.length; i++) multiply(powers[i - 1], powers[1], powers[i]);
      become(out, 1);
      for (int i = Words.NIBBLES - 1; i >= 0; i--) {
        for (int j = 0; j < 4; j++) square(out, out);
        multiply(out, powers[Words.nibble(exponent, i)], out);
      }
    }

    /** Of 0 it makes 0. */
    void invert(long[] a, long[] out) {
      raise(a, INVERTING_POWER, out);
    }

    /** The even one of both roots of a; false, and nothing comes out, if there is none. */
    boolean findRoot(long[] a, long[] out) {
      raise(a, ROOT_POWER, candidate);
      square(candidate, itsSquare);
      if (!areSame(itsSquare, a)) {
        multiply(candidate, rootOfMinusOne, candidate);
        square(candidate, itsSquare);
      }
      if (!areSame(itsSquare, a)) return false;
      if (isOdd(candidate)) negate(candidate, candidate);
      move(candidate, out);
      return true;
    }
  }

  /** Numbers modulo L, the order of BASE. */
  private static final class Scalars {
    private static final long[] ORDER = {
      0x5812631a5cf5d3edL, 0x14def9dea2f79cd6L, 0x0000000000000000L, 0x1000000000000000L
    };
    private static final long[] ONE = {1L, 0L, 0L, 0L};

    private final long[] factor = new long[Words.COUNT];
    private final long[] total = new long[Words.COUNT];
    private final long[] summand = new long[Words.COUNT];

    static boolean isBelowOrder(long[] row) {
      return Words.order(row, ORDER) < 0;
    }

    /** Both are below L, so their sum still fits. */
    private static void increase(long[] a, long[] b) {
      Words.increase(a, b);
      if (Words.order(a, ORDER) >= 0) Words.decrease(a, ORDER);
    }

    /** out becomes, modulo L, the number that a row of so many bits is. */
    static void reduce(long[] row, int bits, long[] out) {
      Arrays.fill(out, 0);
      for (int i = bits - 1; i >= 0; i--) {
        increase(out, out);
        if (Words.bit(row, i) == 1) increase(out, ONE);
      }
    }

    /** out becomes a b + c modulo L, of any a, b and c. */
    void multiplyAndAdd(long[] a, long[] b, long[] c, long[] out) {
      reduce(a, Words.BITS, factor);
      reduce(c, Words.BITS, summand);
      Arrays.fill(total, 0);
      for (int i = Words.BITS - 1; i >= 0; i--) {
        increase(total, total);
        if (Words.bit(b, i) == 1) increase(total, factor);
      }
      increase(total, summand);
      Words.move(total, out);
    }
  }

  /** A point of THE CURVE: (x / z, y / z), and t is x y / z. */
  private static final class Point {
    final long[] x = new long[FieldNumbers.LIMBS];
    final long[] y = new long[FieldNumbers.LIMBS];
    final long[] z = new long[FieldNumbers.LIMBS];
    final long[] t = new long[FieldNumbers.LIMBS];
  }

  /** THE CURVE. What comes out of a call may be one of the points that go in. */
  private static final class Curve {
    private static final long[] D = {
      0x75eb4dca135978a3L, 0x00700a4d4141d8abL, 0x8cc740797779e898L, 0x52036cee2b6ffe73L
    };
    private static final long[] BASE_X = {
      0xc9562d608f25d51aL, 0x692cc7609525a7b2L, 0xc0a4e231fdd6dc5cL, 0x216936d3cd6e53feL
    };
    private static final long[] BASE_Y = {
      0x6666666666666658L, 0x6666666666666666L, 0x6666666666666666L, 0x6666666666666666L
    };

    final Point basePoint = new Point();

    private final FieldNumbers numbers;
    private final long[] one = new long[FieldNumbers.LIMBS];
    private final long[] d = new long[FieldNumbers.LIMBS];
    private final long[] twiceD = new long[FieldNumbers.LIMBS];
    private final long[] a = new long[FieldNumbers.LIMBS];
    private final long[] b = new long[FieldNumbers.LIMBS];
    private final long[] c = new long[FieldNumbers.LIMBS];
    private final long[] e = new long[FieldNumbers.LIMBS];
    private final long[] f = new long[FieldNumbers.LIMBS];
    private final long[] g = new long[FieldNumbers.LIMBS];
    private final long[] h = new long[FieldNumbers.LIMBS];
    private final long[] lowBits = new long[Words.COUNT];
    private final Point[] table = new Point[16];

    Curve(FieldNumbers numbers) {
      this.numbers = numbers;
      numbers.become(one, 1);
      numbers.load(D, d);
      numbers.add(d, d, twiceD);
      numbers.load(BASE_X, basePoint.x);
      numbers.load(BASE_Y, basePoint.y);
      complete(basePoint);
      for (int i = 0; i < table.length; i++) table[i] = new Point();
    }

    private void complete(Point p) {
      numbers.become(p.z, 1);
      numbers.multiply(p.x, p.y, p.t);
    }

    private void becomeNeutral(Point p) {
      numbers.become(p.x, 0);
      numbers.become(p.y, 1);
      complete(p);
    }

    /** The POINT that a slot is; false if it is none. */
    boolean read(long[] words, Point p) {
      Words.move(words, lowBits);
      lowBits[3] &= ~Words.TOP_BIT;
      if (Words.order(lowBits, FieldNumbers.PRIME) >= 0) return false;
      numbers.load(words, p.y);
      // x^2 is (y^2 - 1) / (d y^2 + 1), and the divisor is never 0: -1 / d is no square.
      numbers.square(p.y, a);
      numbers.multiply(d, a, b);
      numbers.add(b, one, b);
      numbers.invert(b, b);
      numbers.subtract(a, one, a);
      numbers.multiply(a, b, a);
      if (!numbers.findRoot(a, p.x)) return false;
      if (Words.bit(words, 255) == 1) {
        if (numbers.isZero(p.x)) return false;
        numbers.negate(p.x, p.x);
      }
      complete(p);
      return true;
    }

    /** The BYTES of a point. */
    void write(Point p, long[] words) {
      numbers.invert(p.z, a);
      numbers.multiply(p.x, a, b);
      numbers.multiply(p.y, a, c);
      numbers.store(c, words);
      if (numbers.isOdd(b)) words[3] |= Words.TOP_BIT;
    }

    void negate(Point p) {
      numbers.negate(p.x, p.x);
      numbers.negate(p.t, p.t);
    }

    /** Right for any two points, the same or opposite ones too: d is no square. */
    void add(Point p, Point q, Point out) {
      numbers.subtract(p.y, p.x, e);
      numbers.subtract(q.y, q.x, f);
      numbers.multiply(e, f, a);
      numbers.add(p.y, p.x, e);
      numbers.add(q.y, q.x, f);
      numbers.multiply(e, f, b);
      numbers.multiply(p.t, q.t, c);
      numbers.multiply(c, twiceD, c);
      numbers.multiply(p.z, q.z, g);
      numbers.add(g, g, g);
      numbers.subtract(b, a, e);
      numbers.add(b, a, h);
      numbers.subtract(g, c, f);
      numbers.add(g, c, g);
      numbers.multiply(e, f, out.x);
      numbers.multiply(g, h, out.y);
      numbers.multiply(f, g, out.z);
      numbers.multiply(e, h, out.t);
    }

    void twice(Point p, Point out) {
      numbers.add(p.x, p.y, e);
      numbers.square(e, e);
      numbers.square(p.x, a);
      numbers.square(p.y, b);
      numbers.square(p.z, c);
      numbers.add(c, c, c);
      numbers.add(a, b, h);
      numbers.subtract(h, e, e);
      numbers.subtract(a, b, g);
      numbers.add(c, g, f);
      numbers.multiply(e, f, out.x);
      numbers.multiply(g, h, out.y);
      numbers.multiply(f, g, out.z);
      numbers.multiply(e, h, out.t);
    }

    void multiply(long[] number, Point p, Point out) {
      becomeNeutral(table[0]);
      for (int i = 1; i < table.length; i++) add(table[i - 1], p, table[i]);
      becomeNeutral(out);
      for (int i = Words.NIBBLES - 1; i >= 0; i--) {
        for (int j = 0; j < 4; j++) twice(out, out);
        add(out, table[Words.nibble(number, i)], out);
      }
    }

    boolean isNeutral(Point p) {
      return numbers.isZero(p.x) && numbers.areSame(p.y, p.z);
    }

    /** (1 + y) / (1 - y) of a point as it was read; its inverse of 0 being 0, it is 0 if y is 1. */
    void findOtherShape(Point p, long[] u) {
      numbers.subtract(one, p.y, a);
      numbers.invert(a, a);
      numbers.add(one, p.y, b);
      numbers.multiply(a, b, u);
    }
  }

  /** X25519, by the ladder of RFC 7748: each u is an x over a z. */
  private static final class Ladder {
    private static final long STEP_FACTOR = 121665;

    private final FieldNumbers numbers;
    private final long[] secret = new long[Words.COUNT];
    private final long[] x2 = new long[FieldNumbers.LIMBS];
    private final long[] z2 = new long[FieldNumbers.LIMBS];
    private final long[] x3 = new long[FieldNumbers.LIMBS];
    private final long[] z3 = new long[FieldNumbers.LIMBS];
    private final long[] a = new long[FieldNumbers.LIMBS];
    private final long[] b = new long[FieldNumbers.LIMBS];
    private final long[] c = new long[FieldNumbers.LIMBS];
    private final long[] d = new long[FieldNumbers.LIMBS];
    private final long[] e = new long[FieldNumbers.LIMBS];

    Ladder(FieldNumbers numbers) {
      this.numbers = numbers;
    }

    void climb(long[] k, long[] u, long[] out) {
      Words.move(k, secret);
      Words.clamp(secret);
      numbers.become(x2, 1);
      numbers.become(z2, 0);
      numbers.move(u, x3);
      numbers.become(z3, 1);
      for (int i = 254; i >= 0; i--) {
        if (Words.bit(secret, i) == 1) {
          step(x3, z3, x2, z2, u);
        } else {
          step(x2, z2, x3, z3, u);
        }
      }
      // At infinity z is 0, and so is what invert makes of it.
      numbers.invert(z2, z2);
      numbers.multiply(x2, z2, out);
    }

    /** Doubles the near one and adds both into the far one; u is what they are apart. */
    private void step(long[] nearX, long[] nearZ, long[] farX, long[] farZ, long[] u) {
      numbers.add(nearX, nearZ, a);
      numbers.subtract(nearX, nearZ, b);
      numbers.add(farX, farZ, c);
      numbers.subtract(farX, farZ, d);
      numbers.multiply(d, a, d);
      numbers.multiply(c, b, c);
      numbers.add(d, c, farX);
      numbers.square(farX, farX);
      numbers.subtract(d, c, farZ);
      numbers.square(farZ, farZ);
      numbers.multiply(farZ, u, farZ);
      numbers.square(a, a);
      numbers.square(b, b);
      numbers.subtract(a, b, e);
      numbers.multiply(a, b, nearX);
      numbers.scale(e, STEP_FACTOR, b);
      numbers.add(a, b, b);
      numbers.multiply(e, b, nearZ);
    }
  }

  /** SHA-512 of what is taken between begin and finish. */
  private static final class Sha512 {
    static final int STATE_WORDS = 8;
    static final int BITS = 512;

    private static final int BLOCK = 128;
    private static final int ROUNDS = 80;
    /** Two rows of 32 bytes and the whole of THE TEXT. */
    private static final int MOST_TAKEN = 64 + Text.ROOM;
    private static final int ROOM = 4 * BLOCK;
    /** A sign that ends the message and its length in 16 bytes. */
    private static final int ENDING = 17;

    private static final long[] FIRST_STATE = {
      0x6a09e667f3bcc908L, 0xbb67ae8584caa73bL, 0x3c6ef372fe94f82bL, 0xa54ff53a5f1d36f1L,
      0x510e527fade682d1L, 0x9b05688c2b3e6c1fL, 0x1f83d9abfb41bd6bL, 0x5be0cd19137e2179L
    };
    private static final long[] ROUND_WORDS = {
      0x428a2f98d728ae22L, 0x7137449123ef65cdL, 0xb5c0fbcfec4d3b2fL, 0xe9b5dba58189dbbcL,
      0x3956c25bf348b538L, 0x59f111f1b605d019L, 0x923f82a4af194f9bL, 0xab1c5ed5da6d8118L,
      0xd807aa98a3030242L, 0x12835b0145706fbeL, 0x243185be4ee4b28cL, 0x550c7dc3d5ffb4e2L,
      0x72be5d74f27b896fL, 0x80deb1fe3b1696b1L, 0x9bdc06a725c71235L, 0xc19bf174cf692694L,
      0xe49b69c19ef14ad2L, 0xefbe4786384f25e3L, 0x0fc19dc68b8cd5b5L, 0x240ca1cc77ac9c65L,
      0x2de92c6f592b0275L, 0x4a7484aa6ea6e483L, 0x5cb0a9dcbd41fbd4L, 0x76f988da831153b5L,
      0x983e5152ee66dfabL, 0xa831c66d2db43210L, 0xb00327c898fb213fL, 0xbf597fc7beef0ee4L,
      0xc6e00bf33da88fc2L, 0xd5a79147930aa725L, 0x06ca6351e003826fL, 0x142929670a0e6e70L,
      0x27b70a8546d22ffcL, 0x2e1b21385c26c926L, 0x4d2c6dfc5ac42aedL, 0x53380d139d95b3dfL,
      0x650a73548baf63deL, 0x766a0abb3c77b2a8L, 0x81c2c92e47edaee6L, 0x92722c851482353bL,
      0xa2bfe8a14cf10364L, 0xa81a664bbc423001L, 0xc24b8b70d0f89791L, 0xc76c51a30654be30L,
      0xd192e819d6ef5218L, 0xd69906245565a910L, 0xf40e35855771202aL, 0x106aa07032bbd1b8L,
      0x19a4c116b8d2d0c8L, 0x1e376c085141ab53L, 0x2748774cdf8eeb99L, 0x34b0bcb5e19b48a8L,
      0x391c0cb3c5c95a63L, 0x4ed8aa4ae3418acbL, 0x5b9cca4f7763e373L, 0x682e6ff3d6b2b8a3L,
      0x748f82ee5defb2fcL, 0x78a5636f43172f60L, 0x84c87814a1f0ab72L, 0x8cc702081a6439ecL,
      0x90befffa23631e28L, 0xa4506cebde82bde9L, 0xbef9a3f7b2c67915L, 0xc67178f2e372532bL,
      0xca273eceea26619cL, 0xd186b8c721c0c207L, 0xeada7dd6cde0eb1eL, 0xf57d4f7fee6ed178L,
      0x06f067aa72176fbaL, 0x0a637dc5a2c898a6L, 0x113f9804bef90daeL, 0x1b710b35131c471bL,
      0x28db77f523047d84L, 0x32caab7b40c72493L, 0x3c9ebe0a15c9bebcL, 0x431d67c49c100d4cL,
      0x4cc5d4becb3e42b6L, 0x597f299cfc657e2aL, 0x5fcb6fab3ad6faecL, 0x6c44198c4a475817L
    };

    private final byte[] message = new byte[ROOM];
    private int length = 0;
    private final long[] schedule = new long[ROUNDS];
    private final long[] state = new long[STATE_WORDS];

    void begin() {
      length = 0;
    }

    private void takeByte(int b) {
      if (length < MOST_TAKEN) {
        message[length] = (byte) b;
        length++;
      }
    }

    void takeRow(long[] words) {
      for (int i = 0; i < 8 * Words.COUNT; i++) takeByte((int) (words[i >> 3] >>> (8 * (i & 7))));
    }

    void takeText(Text text) {
      for (int i = 0; i < text.length; i++) takeByte(text.byteAt(i));
    }

    /** Eight words come out, each with its first byte lowest. */
    void finish(long[] out) {
      int end = (length + ENDING + BLOCK - 1) / BLOCK * BLOCK;
      pad(end);
      System.arraycopy(FIRST_STATE, 0, state, 0, STATE_WORDS);
      for (int start = 0; start + BLOCK <= end; start += BLOCK) {
        fillSchedule(start);
        mix();
      }
      for (int i = 0; i < STATE_WORDS; i++) out[i] = turned(state[i]);
    }

    private void pad(int end) {
      message[length] = (byte) 0x80;
      for (int i = length + 1; i < end; i++) message[i] = 0;
      int bits = 8 * length;
      message[end - 1] = (byte) bits;
      message[end - 2] = (byte) (bits >>> 8);
    }

    private void fillSchedule(int start) {
      for (int i = 0; i < 16; i++) {
        long word = 0;
        for (int j = 0; j < 8; j++) word = (word << 8) | (message[start + 8 * i + j] & 255);
        schedule[i] = word;
      }
      for (int i = 16; i < ROUNDS; i++) {
        long x = schedule[i - 15];
        long y = schedule[i - 2];
        long low = rotated(x, 1) ^ rotated(x, 8) ^ (x >>> 7);
        long high = rotated(y, 19) ^ rotated(y, 61) ^ (y >>> 6);
        schedule[i] = schedule[i - 16] + low + schedule[i - 7] + high;
      }
    }

    private void mix() {
      long a = state[0], b = state[1], c = state[2], d = state[3];
      long e = state[4], f = state[5], g = state[6], h = state[7];
      for (int i = 0; i < ROUNDS; i++) {
        long upper = rotated(e, 14) ^ rotated(e, 18) ^ rotated(e, 41);
        long choice = (e & f) ^ (~e & g);
        long one = h + upper + choice + ROUND_WORDS[i] + schedule[i];
        long lower = rotated(a, 28) ^ rotated(a, 34) ^ rotated(a, 39);
        long majority = (a & b) ^ (a & c) ^ (b & c);
        h = g;
        g = f;
        f = e;
        e = d + one;
        d = c;
        c = b;
        b = a;
        a = one + lower + majority;
      }
      state[0] += a;
      state[1] += b;
      state[2] += c;
      state[3] += d;
      state[4] += e;
      state[5] += f;
      state[6] += g;
      state[7] += h;
    }

    private static long rotated(long w, int n) {
      return (w >>> n) | (w << (64 - n));
    }

    private static long turned(long w) {
      long out = 0;
      for (int i = 0; i < 8; i++) out = (out << 8) | ((w >>> (8 * i)) & 255);
      return out;
    }
  }

  /** Ed25519. */
  private static final class Signer {
    private final Curve curve;
    private final Scalars scalars;
    private final Sha512 sha;
    private final long[] hash = new long[Sha512.STATE_WORDS];
    private final long[] secretNumber = new long[Words.COUNT];
    private final long[] secretPrefix = new long[Words.COUNT];
    private final long[] nonce = new long[Words.COUNT];
    private final long[] challenge = new long[Words.COUNT];
    private final long[] keyRow = new long[Words.COUNT];
    private final Point keyPoint = new Point();
    private final Point noncePoint = new Point();
    private final Point product = new Point();

    Signer(Curve curve, Scalars scalars, Sha512 sha) {
      this.curve = curve;
      this.scalars = scalars;
      this.sha = sha;
    }

    void makeKey(long[] secret, long[] out) {
      unfold(secret);
      curve.multiply(secretNumber, curve.basePoint, product);
      curve.write(product, out);
    }

    /** R and S come out; the secret may be the row of one of them. */
    void makeSignature(long[] secret, Text text, long[] outR, long[] outS) {
      unfold(secret);
      curve.multiply(secretNumber, curve.basePoint, product);
      curve.write(product, keyRow);
      sha.begin();
      sha.takeRow(secretPrefix);
      sha.takeText(text);
      sha.finish(hash);
      Scalars.reduce(hash, Sha512.BITS, nonce);
      curve.multiply(nonce, curve.basePoint, product);
      curve.write(product, outR);
      findChallenge(outR, keyRow, text);
      scalars.multiplyAndAdd(challenge, secretNumber, nonce, outS);
    }

    boolean isRight(long[] key, long[] r, long[] s, Text text) {
      if (!Scalars.isBelowOrder(s)) return false;
      if (!curve.read(key, keyPoint) || !curve.read(r, noncePoint)) return false;
      findChallenge(r, key, text);
      curve.multiply(challenge, keyPoint, keyPoint);
      curve.add(keyPoint, noncePoint, keyPoint);
      curve.negate(keyPoint);
      curve.multiply(s, curve.basePoint, product);
      curve.add(product, keyPoint, product);
      // Three doublings are the cofactor, 8: what is of small order does not count.
      for (int i = 0; i < 3; i++) curve.twice(product, product);
      return curve.isNeutral(product);
    }

    private void unfold(long[] secret) {
      sha.begin();
      sha.takeRow(secret);
      sha.finish(hash);
      System.arraycopy(hash, 0, secretNumber, 0, Words.COUNT);
      System.arraycopy(hash, Words.COUNT, secretPrefix, 0, Words.COUNT);
      Words.clamp(secretNumber);
    }

    private void findChallenge(long[] r, long[] key, Text text) {
      sha.begin();
      sha.takeRow(r);
      sha.takeRow(key);
      sha.takeText(text);
      sha.finish(hash);
      Scalars.reduce(hash, Sha512.BITS, challenge);
    }
  }
}
