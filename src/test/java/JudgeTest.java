import java.math.BigInteger;
import java.util.List;
import java.util.Random;

/** Promise 26: judge, with the cofactor, and what is not right. */
public final class JudgeTest {
  private static final BigInteger L = Model.L;
  private static final Due DUE = new Due("JudgeTest");
  private static final Random RANDOM = new Random(26);
  private static final List<BigInteger[]> SMALL = Numbers.smallPoints();

  public static void main(String[] args) {
    eachBit();
    tooHighS();
    otherTexts();
    withSmallParts();
    smallKeys();
    noPoints();
    DUE.end();
  }

  private static byte[] text(int length) {
    byte[] text = new byte[length];
    RANDOM.nextBytes(text);
    return text;
  }

  /** What judge answers; the slots, THE TEXT and what is counted are looked at as well. */
  private static long judged(BigInteger key, BigInteger bigR, BigInteger s, byte[] text) {
    LadderSigns x = new LadderSigns();
    Desk.put(x, 5, key);
    Desk.put(x, 22, bigR);
    Desk.put(x, 23, s);
    Desk.write(x, text);
    int answer = x.judge(5, 22);
    DUE.same("A stays", Desk.get(x, 5), key);
    DUE.same("R stays", Desk.get(x, 22), bigR);
    DUE.same("S stays", Desk.get(x, 23), s);
    DUE.is("THE TEXT stays", x.count(0), text.length);
    DUE.is("judge costs 2 whatever comes", x.count(1), 398);
    DUE.is("none made", x.count(2), 0);
    DUE.is("one JUDGED", x.count(3), 1);
    DUE.is("of these right", x.count(4), answer);
    return answer;
  }

  private static void eachBit() {
    byte[] text = text(20);
    BigInteger secret = new BigInteger(256, RANDOM);
    BigInteger key = Model.publicKey(secret);
    BigInteger[] both = Model.signature(secret, text);
    DUE.is("as signed", judged(key, both[0], both[1], text), 1);
    for (int i = 0; i < 256; i++) {
      DUE.is("bit " + i + " of A", judged(key.flipBit(i), both[0], both[1], text), 0);
      DUE.is("bit " + i + " of R", judged(key, both[0].flipBit(i), both[1], text), 0);
      DUE.is("bit " + i + " of S", judged(key, both[0], both[1].flipBit(i), text), 0);
    }
    for (int i = 0; i < 8 * text.length; i++) {
      byte[] turned = text.clone();
      turned[i / 8] ^= 1 << i % 8;
      DUE.is("bit " + i + " of THE TEXT", judged(key, both[0], both[1], turned), 0);
    }
  }

  private static void tooHighS() {
    byte[] text = text(3);
    BigInteger secret = new BigInteger(256, RANDOM);
    BigInteger key = Model.publicKey(secret);
    BigInteger[] both = Model.signature(secret, text);
    for (int i = 1; i <= 15; i++) {
      BigInteger s = both[1].add(L.multiply(BigInteger.valueOf(i)));
      if (s.bitLength() <= 256) DUE.is("S and " + i + " L", judged(key, both[0], s, text), 0);
    }
    // With A and R neutral the equation asks for 8 S times BASE to be neutral, as with S = 0 and with S = L.
    DUE.is("S = 0", judged(BigInteger.ONE, BigInteger.ONE, BigInteger.ZERO, text), 1);
    DUE.is("S = L", judged(BigInteger.ONE, BigInteger.ONE, L, text), 0);
    DUE.is("S = L - 1", judged(BigInteger.ONE, BigInteger.ONE, L.subtract(BigInteger.ONE), text), 0);
    // The highest S that is right: R is L - 1 times BASE.
    BigInteger minusBase = Model.bytesOf(Model.minus(Model.BASE));
    DUE.is("S = L - 1 and R = -BASE", judged(BigInteger.ONE, minusBase, L.subtract(BigInteger.ONE), text), 1);
  }

  private static void otherTexts() {
    BigInteger secret = new BigInteger(256, RANDOM);
    BigInteger key = Model.publicKey(secret);
    for (int length : new int[] {0, 1, 47, 48, 63, 64, 175, 176, 303, 304, 399, 400}) {
      byte[] text = text(length);
      BigInteger[] both = Model.signature(secret, text);
      DUE.is("text of " + length, judged(key, both[0], both[1], text), 1);
      DUE.is("another key", judged(Model.bytesOf(Model.BASE), both[0], both[1], text), 0);
      DUE.is("another text", judged(key, both[0], both[1], text(length + 1 > 400 ? 399 : length + 1)), 0);
    }
  }

  /** A and R each with a part of small order: it does not count. */
  private static void withSmallParts() {
    int strict = 0;
    for (int i = 0; i < 8; i++) {
      for (int j = 0; j < 8; j++) {
        byte[] text = text(9);
        BigInteger a = new BigInteger(250, RANDOM);
        BigInteger r = new BigInteger(250, RANDOM);
        BigInteger key = Model.bytesOf(Model.sumOf(Model.product(a, Model.BASE), SMALL.get(i)));
        BigInteger bigR = Model.bytesOf(Model.sumOf(Model.product(r, Model.BASE), SMALL.get(j)));
        BigInteger k = Model.shaModL(Model.row(bigR), Model.row(key), text);
        BigInteger s = r.add(k.multiply(a)).mod(L);
        DUE.is("small parts " + i + ", " + j, judged(key, bigR, s, text), 1);
        DUE.is("and S and 1", judged(key, bigR, s.add(BigInteger.ONE).mod(L), text), 0);
        if (k.multiply(BigInteger.valueOf(i)).add(BigInteger.valueOf(j)).mod(BigInteger.valueOf(8)).signum() != 0) strict++;
      }
    }
    DUE.is("without the cofactor many were wrong", strict > 30 ? 1 : 0, 1);
  }

  private static void smallKeys() {
    for (BigInteger[] a : SMALL) {
      for (BigInteger[] r : SMALL) {
        BigInteger key = Model.bytesOf(a);
        BigInteger bigR = Model.bytesOf(r);
        DUE.is("small A and R, S = 0", judged(key, bigR, BigInteger.ZERO, text(4)), 1);
        DUE.is("small A and R, S = 1", judged(key, bigR, BigInteger.ONE, text(4)), 0);
        DUE.is("small A and R, S = 8", judged(key, bigR, BigInteger.valueOf(8), text(4)), 0);
      }
    }
  }

  /** A or R that would be right, were it read with less care. */
  private static void noPoints() {
    for (BigInteger no : Numbers.almostPoints()) {
      DUE.is("A is no POINT: " + no, judged(no, BigInteger.ONE, BigInteger.ZERO, text(5)), 0);
      DUE.is("R is no POINT: " + no, judged(BigInteger.ONE, no, BigInteger.ZERO, text(5)), 0);
    }
  }
}
