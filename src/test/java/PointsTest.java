import java.math.BigInteger;
import java.util.List;
import java.util.Random;

/** Promises 15 to 21: isPoint, across, sum, times, base, small, other. */
public final class PointsTest {
  private static final BigInteger P = Model.P;
  private static final BigInteger BASE = Model.bytesOf(Model.BASE);
  private static final BigInteger NEUTRAL = BigInteger.ONE;
  private static final Due DUE = new Due("PointsTest");
  private static final List<BigInteger> POINTS = Numbers.points();
  private static final List<BigInteger> NO_POINTS = Numbers.almostPoints();

  public static void main(String[] args) {
    Random random = new Random(15);
    for (int i = 0; i < 6; i++) {
      POINTS.add(Model.bytesOf(Model.product(new BigInteger(256, random), Model.BASE)));
    }
    knownPoints();
    whatIsNone();
    readings();
    sums();
    sumsInPlace();
    products();
    productsOfBase();
    productsInPlace();
    smallOnes();
    otherShapes();
    unknownSlots();
    DUE.end();
  }

  /** Figures of RFC 8032 and of others, not of the Model. */
  private static void knownPoints() {
    LadderSigns x = Desk.with(BigInteger.ONE);
    x.base(0, 1);
    DUE.same("BASE", Desk.get(x, 1), Desk.hex("5866666666666666666666666666666666666666666666666666666666666666"));
    x.across(1, 2);
    DUE.same("x of BASE", Desk.get(x, 2),
        new BigInteger("15112221349535400772501151409588531511454012693041857206046113283949847762202"));
    x.other(1, 3);
    DUE.same("BASE on the other shape", Desk.get(x, 3), BigInteger.valueOf(9));
    x.sum(0, 1, 1, 4);
    DUE.same("twice BASE", Desk.get(x, 4), Desk.hex("c9a3f86aae465f0e56513864510f3997561fa2c9e85ea21dc2292309f3cd6022"));
    Desk.put(x, 5, Desk.hex("26e8958fc2b227b045c3f489f2ef98f0d5dfac05d3c63339b13802886d53fc05"));
    DUE.is("a point of eight", x.small(5), 3);
  }

  private static void whatIsNone() {
    for (BigInteger no : NO_POINTS) {
      LadderSigns x = Desk.with(no, BASE, BigInteger.valueOf(77));
      DUE.is("isPoint of " + no, x.isPoint(0), 0);
      DUE.is("across of " + no, x.across(0, 2), -1);
      DUE.is("sum of it and BASE", x.sum(0, 0, 1, 2), -1);
      DUE.is("sum of BASE and it", x.sum(0, 1, 0, 2), -1);
      DUE.is("it less BASE", x.sum(1, 0, 1, 2), -1);
      DUE.is("BASE less it", x.sum(1, 1, 0, 2), -1);
      DUE.is("way 2 of it", x.sum(2, 0, 1, 2), -102);
      DUE.is("times of it", x.times(2, 0, 2), -1);
      DUE.is("small of it", x.small(0), -1);
      DUE.is("other of it", x.other(0, 2), -1);
      DUE.same("t stays", Desk.get(x, 2), BigInteger.valueOf(77));
      DUE.is("no WORK", x.count(1), 400);
    }
  }

  private static void readings() {
    for (BigInteger yes : POINTS) {
      LadderSigns x = Desk.with(yes);
      DUE.is("isPoint of " + yes, x.isPoint(0), 1);
      DUE.is("across of " + yes, x.across(0, 1), 1);
      DUE.same("across of " + yes, Desk.get(x, 1), Model.point(yes)[0]);
      DUE.same("what is read stays", Desk.get(x, 0), yes);
      DUE.is("across in place", x.across(0, 0), 1);
      DUE.same("across in place", Desk.get(x, 0), Model.point(yes)[0]);
    }
    int found = 0;
    for (int y = 0; y < 100; y++) {
      LadderSigns x = Desk.with(BigInteger.valueOf(y), P.subtract(BigInteger.valueOf(y + 1)));
      boolean is = Model.point(BigInteger.valueOf(y)) != null;
      if (is) found++;
      DUE.is("isPoint of " + y, x.isPoint(0), is ? 1 : 0);
      DUE.is("isPoint of p - 1 - " + y, x.isPoint(1), Model.point(P.subtract(BigInteger.valueOf(y + 1))) != null ? 1 : 0);
    }
    DUE.is("some are, some are not", found > 20 && found < 80 ? 1 : 0, 1);
  }

  private static void sums() {
    for (BigInteger a : POINTS) {
      for (BigInteger b : POINTS) {
        LadderSigns x = Desk.with(a, b);
        BigInteger[] p = Model.point(a);
        BigInteger[] q = Model.point(b);
        DUE.is("sum", x.sum(0, 0, 1, 2), 1);
        DUE.same("sum of " + a + " and " + b, Desk.get(x, 2), Model.bytesOf(Model.sumOf(p, q)));
        DUE.is("difference", x.sum(1, 0, 1, 2), 1);
        DUE.same(a + " less " + b, Desk.get(x, 2), Model.bytesOf(Model.sumOf(p, Model.minus(q))));
      }
    }
  }

  private static void sumsInPlace() {
    LadderSigns x = Desk.with(BASE);
    x.sum(0, 0, 0, 0);
    DUE.same("BASE and BASE in place", Desk.get(x, 0), Model.bytesOf(Model.sumOf(Model.BASE, Model.BASE)));
    x.sum(1, 0, 0, 0);
    DUE.same("a point less itself", Desk.get(x, 0), NEUTRAL);
    DUE.is("sum costs nothing", x.count(1), 400);
    DUE.is("way -1", x.sum(-1, 0, 0, 0), -102);
    DUE.is("way 2 of slot 24", x.sum(2, 24, 0, 0), -101);
  }

  private static void products() {
    Random random = new Random(18);
    List<BigInteger> numbers = Numbers.ends();
    for (int i = 0; i < 30; i++) numbers.add(Numbers.any(random));
    for (int i = 0; i < numbers.size(); i++) {
      BigInteger k = numbers.get(i);
      BigInteger a = POINTS.get(i % POINTS.size());
      LadderSigns x = Desk.with(k, a);
      DUE.is("times", x.times(0, 1, 2), 1);
      DUE.same(k + " times " + a, Desk.get(x, 2), Model.bytesOf(Model.product(k, Model.point(a))));
      DUE.is("times costs 1", x.count(1), 399);
    }
    // All bits count: with a point of eight, a number modulo L would be another one.
    for (BigInteger[] small : Numbers.smallPoints()) {
      LadderSigns x = Desk.with(Numbers.ALL, Model.bytesOf(small));
      x.times(0, 1, 1);
      DUE.same("2^256 - 1 times a small point", Desk.get(x, 1), Model.bytesOf(Model.minus(small)));
    }
  }

  private static void productsOfBase() {
    for (BigInteger k : Numbers.ends()) {
      LadderSigns x = Desk.with(k);
      DUE.is("base", x.base(0, 1), 1);
      DUE.same(k + " times BASE", Desk.get(x, 1), Model.bytesOf(Model.product(k, Model.BASE)));
      DUE.is("base costs 1", x.count(1), 399);
    }
    LadderSigns x = Desk.with(Model.L);
    x.base(0, 0);
    DUE.same("L times BASE", Desk.get(x, 0), NEUTRAL);
  }

  private static void productsInPlace() {
    BigInteger five = BigInteger.valueOf(5);
    BigInteger due = Model.bytesOf(Model.product(five, Model.BASE));
    for (int t = 0; t < 2; t++) {
      LadderSigns x = Desk.with(five, BASE);
      x.times(0, 1, t);
      DUE.same("5 times BASE into slot " + t, Desk.get(x, t), due);
    }
    LadderSigns x = Desk.with(BASE);
    x.times(0, 0, 0);
    DUE.same("BASE's BYTES times BASE", Desk.get(x, 0), Model.bytesOf(Model.product(BASE, Model.BASE)));
  }

  private static void smallOnes() {
    int[] dues = {0, 3, 2, 3, 1, 3, 2, 3};
    List<BigInteger[]> all = Numbers.smallPoints();
    for (int i = 0; i < 8; i++) {
      LadderSigns x = Desk.with(Model.bytesOf(all.get(i)), Model.bytesOf(Model.sumOf(all.get(i), Model.BASE)));
      DUE.is("small of " + i + " times a point of eight", x.small(0), dues[i]);
      DUE.is("small of it and BASE", x.small(1), 4);
      DUE.is("small costs nothing", x.count(1), 400);
    }
    DUE.is("small of BASE", Desk.with(BASE).small(0), 4);
  }

  private static void otherShapes() {
    for (BigInteger a : POINTS) {
      LadderSigns x = Desk.with(a, BigInteger.TWO);
      BigInteger y = Model.point(a)[1];
      BigInteger due = Model.over(BigInteger.ONE.add(y), BigInteger.ONE.subtract(y));
      DUE.is("other of " + a, x.other(0, 1), 1);
      DUE.same("other of " + a, Desk.get(x, 1), y.equals(BigInteger.ONE) ? BigInteger.ZERO : due);
      DUE.is("other in place", x.other(0, 0), 1);
      DUE.same("other in place", Desk.get(x, 0), due);
    }
    // The ladder and the points say the same: k times BASE on the other shape is X25519 of k and 9.
    Random random = new Random(21);
    for (int i = 0; i < 20; i++) {
      BigInteger k = new BigInteger(256, random);
      LadderSigns x = Desk.with(k, Model.clamped(k), BigInteger.valueOf(9));
      x.base(1, 3);
      x.other(3, 3);
      x.share(0, 2, 4);
      DUE.is("both shapes of " + k, x.compare(3, 4), 0);
    }
  }

  private static void unknownSlots() {
    LadderSigns x = Desk.with(BASE);
    for (int no : new int[] {-1, 24, Integer.MIN_VALUE, Integer.MAX_VALUE}) {
      DUE.is("isPoint", x.isPoint(no), -101);
      DUE.is("across from", x.across(no, 0), -101);
      DUE.is("across to", x.across(0, no), -101);
      DUE.is("sum of a", x.sum(0, no, 0, 0), -101);
      DUE.is("sum of b", x.sum(0, 0, no, 0), -101);
      DUE.is("sum to", x.sum(0, 0, 0, no), -101);
      DUE.is("times by", x.times(no, 0, 0), -101);
      DUE.is("times of", x.times(0, no, 0), -101);
      DUE.is("times to", x.times(0, 0, no), -101);
      DUE.is("base by", x.base(no, 0), -101);
      DUE.is("base to", x.base(0, no), -101);
      DUE.is("small of", x.small(no), -101);
      DUE.is("other of", x.other(no, 0), -101);
      DUE.is("other to", x.other(0, no), -101);
      DUE.is("no POINT to", x.across(1, no), -101);
    }
    DUE.same("refused calls leave a slot", Desk.get(x, 0), BASE);
    DUE.is("refused calls cost nothing", x.count(1), 400);
  }
}
