import java.math.BigInteger;
import java.util.ArrayList;
import java.util.Arrays;
import java.util.List;
import java.util.Random;

/** Numbers of 256 bits at which a mistake would show: ends of ranges, odd bits, points of all kinds. */
final class Numbers {
  static final BigInteger ALL = Desk.two(256).subtract(BigInteger.ONE);

  private Numbers() {}

  /** All eight POINTS that some doublings make neutral, in the order of their multiples. */
  static List<BigInteger[]> smallPoints() {
    BigInteger y = BigInteger.TWO;
    BigInteger[] eighth = null;
    while (eighth == null) {
      BigInteger[] p = Model.point(y);
      y = y.add(BigInteger.ONE);
      if (p == null) continue;
      BigInteger[] q = Model.product(Model.L, p);
      BigInteger[] half = Model.product(BigInteger.valueOf(4), q);
      if (!Arrays.equals(half, Model.NEUTRAL)) eighth = q;
    }
    List<BigInteger[]> all = new ArrayList<>();
    for (int i = 0; i < 8; i++) all.add(Model.product(BigInteger.valueOf(i), eighth));
    return all;
  }

  static List<BigInteger> ends() {
    List<BigInteger> all = new ArrayList<>();
    BigInteger[] middles = {
      BigInteger.ZERO, Desk.two(26), Desk.two(63), Desk.two(64), Desk.two(128), Desk.two(192),
      Desk.two(234), Desk.two(252), Desk.two(254), Desk.two(255), Model.P, Model.P.shiftLeft(1),
      Model.P.shiftRight(1), Model.L, Model.L.shiftLeft(1), Model.L.shiftLeft(3),
      Model.L.multiply(BigInteger.valueOf(15)), Model.P.add(Desk.two(255)), ALL
    };
    for (BigInteger middle : middles) {
      for (int i = -2; i <= 2; i++) {
        BigInteger n = middle.add(BigInteger.valueOf(i));
        if (n.signum() >= 0 && n.bitLength() <= 256) all.add(n);
      }
    }
    all.add(BigInteger.valueOf(9));
    all.add(BigInteger.valueOf(19));
    all.add(Model.P.add(BigInteger.valueOf(18)));
    return all;
  }

  static List<BigInteger> points() {
    List<BigInteger> all = new ArrayList<>();
    for (BigInteger[] small : smallPoints()) {
      all.add(Model.bytesOf(small));
      all.add(Model.bytesOf(Model.minus(small)));
      all.add(Model.bytesOf(Model.sumOf(Model.BASE, small)));
    }
    all.add(Model.bytesOf(Model.minus(Model.BASE)));
    return all;
  }

  /** No POINTS, but near ones: y not below p, 0 as x with the highest bit, no such y. */
  static List<BigInteger> almostPoints() {
    List<BigInteger> all = new ArrayList<>();
    for (int i = 0; i < 19; i++) {
      all.add(Model.P.add(BigInteger.valueOf(i)));
      all.add(Model.P.add(BigInteger.valueOf(i)).setBit(255));
    }
    all.add(BigInteger.ONE.setBit(255));
    all.add(Model.P.subtract(BigInteger.ONE).setBit(255));
    for (int y = 2; all.size() < 50; y++) {
      if (Model.point(BigInteger.valueOf(y)) == null) all.add(BigInteger.valueOf(y));
    }
    return all;
  }

  /** Random bits, at times in long runs of the same one, at times few of them. */
  static BigInteger any(Random random) {
    BigInteger n = new BigInteger(256, random);
    switch (random.nextInt(4)) {
      case 0: return n;
      case 1: return n.shiftRight(random.nextInt(256));
      case 2: return Model.low255(n);
      default:
        BigInteger runs = BigInteger.ZERO;
        boolean one = random.nextBoolean();
        for (int i = 0; i < 256; i++) {
          if (random.nextInt(26) == 0) one = !one;
          if (one) runs = runs.setBit(i);
        }
        return runs;
    }
  }
}
