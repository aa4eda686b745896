import java.math.BigInteger;
import java.security.MessageDigest;
import java.security.NoSuchAlgorithmException;
import java.util.ArrayList;
import java.util.Arrays;
import java.util.List;

/** The document once more, said in whole numbers of any size: slow, and sharing nothing with the class. */
final class Model {
  static final BigInteger ZERO = BigInteger.ZERO;
  static final BigInteger ONE = BigInteger.ONE;
  static final BigInteger TWO = BigInteger.TWO;
  static final BigInteger P = ONE.shiftLeft(255).subtract(BigInteger.valueOf(19));
  static final BigInteger L = ONE.shiftLeft(252).add(new BigInteger("27742317777372353535851937790883648493"));
  static final BigInteger D = over(BigInteger.valueOf(-121665), BigInteger.valueOf(121666));
  static final BigInteger[] NEUTRAL = {ZERO, ONE};
  static final BigInteger[] BASE = point(over(BigInteger.valueOf(4), BigInteger.valueOf(5)));

  private static final int NONE = -1, UNKNOWN = -101, OUTSIDE = -102, STATE = -103, FULL = -104;

  final BigInteger[] slots = new BigInteger[24];
  byte[] text = new byte[0];
  int work = 400;
  int made = 0;
  int judged = 0;
  int right = 0;

  Model() {
    Arrays.fill(slots, ZERO);
  }

  // ---- the mathematics

  static BigInteger mod(BigInteger a) {
    return a.mod(P);
  }

  /** By Fermat, so that what is over 0 comes out as 0. */
  static BigInteger over(BigInteger a, BigInteger b) {
    return mod(a.multiply(b.modPow(P.subtract(TWO), P)));
  }

  /** The even root, or null. */
  static BigInteger rootOf(BigInteger a) {
    if (mod(a).signum() == 0) return ZERO;
    if (!a.modPow(P.subtract(ONE).shiftRight(1), P).equals(ONE)) return null;
    BigInteger r = a.modPow(P.add(BigInteger.valueOf(3)).shiftRight(3), P);
    if (!mod(r.multiply(r)).equals(mod(a))) r = mod(r.multiply(TWO.modPow(P.shiftRight(2), P)));
    return r.testBit(0) ? P.subtract(r) : r;
  }

  static BigInteger low255(BigInteger a) {
    return a.clearBit(255);
  }

  static BigInteger fieldNumber(BigInteger slot) {
    return mod(low255(slot));
  }

  /** The POINT that a number of 256 bits is, or null. */
  static BigInteger[] point(BigInteger bytes) {
    BigInteger y = low255(bytes);
    if (y.compareTo(P) >= 0) return null;
    BigInteger yy = mod(y.multiply(y));
    BigInteger x = rootOf(over(yy.subtract(ONE), D.multiply(yy).add(ONE)));
    if (x == null) return null;
    if (!bytes.testBit(255)) return new BigInteger[] {x, y};
    return x.signum() == 0 ? null : new BigInteger[] {P.subtract(x), y};
  }

  static BigInteger bytesOf(BigInteger[] p) {
    return p[0].testBit(0) ? p[1].setBit(255) : p[1];
  }

  static BigInteger[] sumOf(BigInteger[] p, BigInteger[] q) {
    BigInteger cross = mod(D.multiply(p[0]).multiply(q[0]).multiply(p[1]).multiply(q[1]));
    BigInteger up = ONE.add(cross);
    BigInteger down = ONE.subtract(cross);
    BigInteger both = mod(up.multiply(down)).modInverse(P);
    BigInteger x = p[0].multiply(q[1]).add(p[1].multiply(q[0]));
    BigInteger y = p[1].multiply(q[1]).add(p[0].multiply(q[0]));
    return new BigInteger[] {mod(x.multiply(down).multiply(both)), mod(y.multiply(up).multiply(both))};
  }

  static BigInteger[] minus(BigInteger[] p) {
    return new BigInteger[] {mod(p[0].negate()), p[1]};
  }

  static BigInteger[] product(BigInteger n, BigInteger[] p) {
    BigInteger[] all = NEUTRAL;
    BigInteger[] power = p;
    for (int i = 0; i < n.bitLength(); i++) {
      if (n.testBit(i)) all = sumOf(all, power);
      power = sumOf(power, power);
    }
    return all;
  }

  static BigInteger clamped(BigInteger k) {
    return k.clearBit(0).clearBit(1).clearBit(2).clearBit(255).setBit(254);
  }

  static BigInteger ladder(BigInteger k, BigInteger u) {
    BigInteger n = clamped(k);
    BigInteger x2 = ONE, z2 = ZERO, x3 = u, z3 = ONE;
    boolean swapped = false;
    for (int i = 254; i >= 0; i--) {
      if (swapped != n.testBit(i)) {
        BigInteger x = x2, z = z2;
        x2 = x3;
        z2 = z3;
        x3 = x;
        z3 = z;
      }
      swapped = n.testBit(i);
      BigInteger a = mod(x2.add(z2)), aa = mod(a.multiply(a));
      BigInteger b = mod(x2.subtract(z2)), bb = mod(b.multiply(b));
      BigInteger e = aa.subtract(bb);
      BigInteger da = mod(x3.subtract(z3).multiply(a)), cb = mod(x3.add(z3).multiply(b));
      x3 = mod(da.add(cb).multiply(da.add(cb)));
      z3 = mod(u.multiply(da.subtract(cb)).multiply(da.subtract(cb)));
      x2 = mod(aa.multiply(bb));
      z2 = mod(e.multiply(aa.add(BigInteger.valueOf(121665).multiply(e))));
    }
    return swapped ? over(x3, z3) : over(x2, z2);
  }

  static byte[] sha(byte[]... parts) {
    try {
      MessageDigest all = MessageDigest.getInstance("SHA-512");
      for (byte[] part : parts) all.update(part);
      return all.digest();
    } catch (NoSuchAlgorithmException none) {
      throw new IllegalStateException(none);
    }
  }

  static BigInteger shaModL(byte[]... parts) {
    return Desk.number(sha(parts)).mod(L);
  }

  static byte[] row(BigInteger a) {
    return Desk.row(a, 32);
  }

  static BigInteger secretNumber(BigInteger secret) {
    return clamped(Desk.number(Arrays.copyOf(sha(row(secret)), 32)));
  }

  static BigInteger publicKey(BigInteger secret) {
    return bytesOf(product(secretNumber(secret), BASE));
  }

  static BigInteger[] signature(BigInteger secret, byte[] text) {
    byte[] prefix = Arrays.copyOfRange(sha(row(secret)), 32, 64);
    BigInteger r = shaModL(prefix, text);
    BigInteger bigR = bytesOf(product(r, BASE));
    BigInteger k = shaModL(row(bigR), row(publicKey(secret)), text);
    return new BigInteger[] {bigR, r.add(k.multiply(secretNumber(secret))).mod(L)};
  }

  static boolean isRight(BigInteger key, BigInteger bigR, BigInteger s, byte[] text) {
    BigInteger[] a = point(key);
    BigInteger[] r = point(bigR);
    if (s.compareTo(L) >= 0 || a == null || r == null) return false;
    BigInteger k = shaModL(row(bigR), row(key), text);
    BigInteger[] one = product(s.shiftLeft(3), BASE);
    BigInteger[] two = sumOf(product(BigInteger.valueOf(8), r), product(k.shiftLeft(3), a));
    return Arrays.equals(one, two);
  }

  // ---- the face

  private static boolean no(int... places) {
    for (int s : places) {
      if (s < 0 || s > 23) return true;
    }
    return false;
  }

  private static boolean noPair(int t) {
    return t < 0 || t > 22;
  }

  int set(int s, int i, long w) {
    if (no(s)) return UNKNOWN;
    if (i < 0 || i > 3) return OUTSIDE;
    byte[] bytes = row(slots[s]);
    for (int j = 0; j < 8; j++) bytes[8 * i + j] = (byte) (w >>> 8 * j);
    slots[s] = Desk.number(bytes);
    return 1;
  }

  long word(int s, int i) {
    return no(s) || i < 0 || i > 3 ? 0 : slots[s].shiftRight(64 * i).longValue();
  }

  int copy(int s, int t) {
    if (no(s, t)) return UNKNOWN;
    slots[t] = slots[s];
    return 1;
  }

  int type(long w, int n) {
    if (n < 1 || n > 8) return OUTSIDE;
    if (text.length + n > 400) return FULL;
    text = Arrays.copyOf(text, text.length + n);
    for (int i = 0; i < n; i++) text[text.length - n + i] = (byte) (w >>> 8 * i);
    return text.length;
  }

  int clear() {
    int had = text.length;
    text = new byte[0];
    return had;
  }

  int at(int i) {
    return i < 0 || i >= text.length ? NONE : text[i] & 255;
  }

  int flip(int s, int k, int i) {
    if (no(s)) return UNKNOWN;
    if (k < 0 || k > 31 || i < 0 || i > 7) return OUTSIDE;
    slots[s] = slots[s].flipBit(8 * k + i);
    return slots[s].testBit(8 * k + i) ? 1 : 0;
  }

  int field(int way, int a, int b, int t) {
    if (no(a, b, t)) return UNKNOWN;
    if (way < 0 || way > 3) return OUTSIDE;
    BigInteger x = fieldNumber(slots[a]);
    BigInteger y = fieldNumber(slots[b]);
    if (way == 3 && y.signum() == 0) return STATE;
    if (way == 0) slots[t] = mod(x.add(y));
    if (way == 1) slots[t] = mod(x.subtract(y));
    if (way == 2) slots[t] = mod(x.multiply(y));
    if (way == 3) slots[t] = mod(x.multiply(y.modInverse(P)));
    return 1;
  }

  int power(int a, int b, int t) {
    if (no(a, b, t)) return UNKNOWN;
    slots[t] = fieldNumber(slots[a]).modPow(slots[b], P);
    return 1;
  }

  int root(int a, int t) {
    if (no(a, t)) return UNKNOWN;
    BigInteger r = rootOf(fieldNumber(slots[a]));
    if (r == null) return 0;
    slots[t] = r;
    return 1;
  }

  int about(int s, int what) {
    if (no(s)) return UNKNOWN;
    BigInteger n = slots[s];
    switch (what) {
      case 0: return n.compareTo(P) < 0 ? 1 : 0;
      case 1: return n.compareTo(L) < 0 ? 1 : 0;
      case 2: return fieldNumber(n).signum() == 0 ? 1 : 0;
      case 3: return fieldNumber(n).testBit(0) ? 1 : 0;
      case 4: return n.bitLength();
      default: return OUTSIDE;
    }
  }

  int compare(int a, int b) {
    return no(a, b) ? UNKNOWN : slots[a].compareTo(slots[b]);
  }

  int scalar(int a, int b, int c, int t) {
    if (no(a, b, c, t)) return UNKNOWN;
    slots[t] = slots[a].multiply(slots[b]).add(slots[c]).mod(L);
    return 1;
  }

  int isPoint(int s) {
    return no(s) ? UNKNOWN : point(slots[s]) == null ? 0 : 1;
  }

  int across(int s, int t) {
    if (no(s, t)) return UNKNOWN;
    BigInteger[] p = point(slots[s]);
    if (p == null) return NONE;
    slots[t] = p[0];
    return 1;
  }

  int sum(int way, int a, int b, int t) {
    if (no(a, b, t)) return UNKNOWN;
    if (way < 0 || way > 1) return OUTSIDE;
    BigInteger[] p = point(slots[a]);
    BigInteger[] q = point(slots[b]);
    if (p == null || q == null) return NONE;
    slots[t] = bytesOf(sumOf(p, way == 0 ? q : minus(q)));
    return 1;
  }

  int times(int k, int a, int t) {
    if (no(k, a, t)) return UNKNOWN;
    if (work < 1) return STATE;
    BigInteger[] p = point(slots[a]);
    if (p == null) return NONE;
    work--;
    slots[t] = bytesOf(product(slots[k], p));
    return 1;
  }

  int base(int k, int t) {
    if (no(k, t)) return UNKNOWN;
    if (work < 1) return STATE;
    work--;
    slots[t] = bytesOf(product(slots[k], BASE));
    return 1;
  }

  int small(int a) {
    if (no(a)) return UNKNOWN;
    BigInteger[] p = point(slots[a]);
    if (p == null) return NONE;
    for (int n = 0; n < 4; n++) {
      if (Arrays.equals(product(ONE.shiftLeft(n), p), NEUTRAL)) return n;
    }
    return 4;
  }

  int other(int a, int t) {
    if (no(a, t)) return UNKNOWN;
    BigInteger[] p = point(slots[a]);
    if (p == null) return NONE;
    slots[t] = p[1].equals(ONE) ? ZERO : over(ONE.add(p[1]), ONE.subtract(p[1]));
    return 1;
  }

  int share(int k, int u, int t) {
    if (no(k, u, t)) return UNKNOWN;
    if (work < 1) return STATE;
    work--;
    slots[t] = ladder(slots[k], fieldNumber(slots[u]));
    return slots[t].signum();
  }

  int digest(int t) {
    if (noPair(t)) return UNKNOWN;
    byte[] all = sha(text);
    slots[t] = Desk.number(Arrays.copyOf(all, 32));
    slots[t + 1] = Desk.number(Arrays.copyOfRange(all, 32, 64));
    return 1;
  }

  int key(int s, int t) {
    if (no(s, t)) return UNKNOWN;
    if (work < 1) return STATE;
    work--;
    slots[t] = publicKey(slots[s]);
    return 1;
  }

  int sign(int s, int t) {
    if (no(s) || noPair(t)) return UNKNOWN;
    if (work < 2) return STATE;
    work -= 2;
    made++;
    BigInteger[] both = signature(slots[s], text);
    slots[t] = both[0];
    slots[t + 1] = both[1];
    return 1;
  }

  int judge(int a, int r) {
    if (no(a) || noPair(r)) return UNKNOWN;
    if (work < 2) return STATE;
    work -= 2;
    judged++;
    if (!isRight(slots[a], slots[r], slots[r + 1], text)) return 0;
    right++;
    return 1;
  }

  int count(int what) {
    switch (what) {
      case 0: return text.length;
      case 1: return work;
      case 2: return made;
      case 3: return judged;
      case 4: return right;
      default: return OUTSIDE;
    }
  }

  /** The same list as Desk.seen. */
  List<Object> seen() {
    List<Object> all = new ArrayList<>(Arrays.asList(slots));
    for (int what = 0; what < 5; what++) all.add((long) count(what));
    digest(0);
    all.add(slots[0]);
    all.add(slots[1]);
    return all;
  }
}
