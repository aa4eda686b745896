import java.io.IOException;
import java.math.BigInteger;
import java.util.List;

/** Promises 15 to 21, the sentences that name a boundary case: each has a test of its own. */
public final class PointsEdgesTest {
  private static final BigInteger ZERO = BigInteger.ZERO, ONE = BigInteger.ONE, TWO = BigInteger.TWO;
  private static final BigInteger P = Model.P, L = Model.L, ALL = Numbers.ALL, TOP = Desk.two(255);
  private static final BigInteger MINUS_ONE = P.subtract(ONE);
  private static final BigInteger BASE = Model.bytesOf(Model.BASE), MINUS_BASE = Model.bytesOf(Model.minus(Model.BASE));
  private static final BigInteger NEUTRAL = ONE;
  /** The y of 2 is on no point. */
  private static final BigInteger NO_POINT = TWO;
  /** In the order of their multiples: 0 the neutral one, 4 of order 2, 2 and 6 of order 4, the others of order 8. */
  private static final BigInteger[] SMALL = new BigInteger[8];

  static {
    for (int i = 0; i < 8; i++) SMALL[i] = Model.bytesOf(Numbers.smallPoints().get(i));
  }

  public static void main(String[] args) throws IOException {
    Edges.run(PointsEdgesTest.class, 15, 21);
  }

  private static BigInteger timesBase(long n) {
    return Model.bytesOf(Model.product(BigInteger.valueOf(n), Model.BASE));
  }

  /** A call that reads slot 0 as a POINT refuses each of these. */
  private static BigInteger[] noPoints() {
    return new BigInteger[] {
      NO_POINT, NO_POINT.add(TOP), P, P.add(ONE), P.add(TOP), TOP.subtract(ONE), ALL, ONE.add(TOP), MINUS_ONE.add(TOP)
    };
  }

  // ---- 15, isPoint

  private static void isPointIs(Due due, long want, BigInteger... numbers) {
    for (BigInteger n : numbers) new Run(due, n).is(want, "isPoint", 0);
  }

  @Sentence(promise = 15, words = "its lowest 255 bits are below p")
  static void yFromP(Due due) {
    for (int i = 0; i < 19; i++) {
      BigInteger y = P.add(BigInteger.valueOf(i));
      isPointIs(due, 0, y, y.add(TOP));
    }
    isPointIs(due, 1, MINUS_ONE, P.subtract(BigInteger.valueOf(3)), P.subtract(BigInteger.valueOf(3)).add(TOP));
    isPointIs(due, 0, P.subtract(TWO), P.subtract(TWO).add(TOP));
  }

  @Sentence(promise = 15, words = "there is a point of THE CURVE with that y")
  static void yOfNoPoint(Due due) {
    isPointIs(due, 0, NO_POINT, NO_POINT.add(TOP), BigInteger.valueOf(7), BigInteger.valueOf(8));
    isPointIs(due, 1, BASE, MINUS_BASE, BigInteger.valueOf(3), BigInteger.valueOf(3).add(TOP));
    isPointIs(due, 1, SMALL);
  }

  @Sentence(promise = 15, words = "(if its x is 0) the highest bit is 0")
  static void highestBitOfNothing(Due due) {
    isPointIs(due, 1, ONE, MINUS_ONE);
    isPointIs(due, 0, ONE.add(TOP), MINUS_ONE.add(TOP));
    // The x of y = 0 is not 0: both are POINTS.
    isPointIs(due, 1, ZERO, TOP);
  }

  @Sentence(promise = 15, words = "UNKNOWN")
  static void isPointOfNoSlot(Due due) {
    Edges.refusesEachSlot(due, "isPoint", 1);
    new Run(due).is(1, "isPoint", 23);
  }

  @Sentence(promise = 15, words = "they change nothing")
  static void isPointChangesNothing(Due due) {
    Run run = new Run(due, BASE, ALL);
    List<Object> before = run.all();
    run.make("isPoint", 0);
    run.make("isPoint", 1);
    run.make("isPoint", 24);
    run.stays(before);
  }

  // ---- 16, across

  private static void acrossIs(Due due, BigInteger point, BigInteger want) {
    Run run = new Run(due, point, ALL);
    run.is(1, "across", 0, 1);
    run.has(1, want);
    run.has(0, point);
  }

  @Sentence(promise = 16, words = "it is the one whose x has that lowest bit")
  static void bothPointsOfAY(Due due) {
    BigInteger x = Model.BASE[0];
    acrossIs(due, BASE, x);
    acrossIs(due, MINUS_BASE, P.subtract(x));
    BigInteger even = Model.rootOf(MINUS_ONE);
    acrossIs(due, ZERO, even);
    acrossIs(due, TOP, P.subtract(even));
  }

  @Sentence(promise = 16, words = "What comes into a SLOT as a FIELD NUMBER is below p")
  static void xOfNothing(Due due) {
    acrossIs(due, ONE, ZERO);
    acrossIs(due, MINUS_ONE, ZERO);
  }

  @Sentence(promise = 16, words = "SLOT t becomes the x of a POINT")
  static void acrossOverWhatItReads(Due due) {
    Run run = new Run(due, MINUS_BASE, NEUTRAL);
    run.is(1, "across", 0, 0);
    run.has(0, P.subtract(Model.BASE[0]));
    run.is(1, "across", 1, 1);
    run.has(1, ZERO);
  }

  @Sentence(promise = 16, words = "UNKNOWN")
  static void acrossOfNoSlot(Due due) {
    Edges.refusesEachSlot(due, "across", 2);
    new Run(due).is(1, "across", 23, 23);
  }

  @Sentence(promise = 16, words = "NONE")
  static void acrossOfNoPoint(Due due) {
    for (BigInteger no : noPoints()) new Run(due, no).is(Edges.NONE, "across", 0, 1);
  }

  @Sentence(promise = 16, words = "of several the first as told")
  static void acrossRefusalsInOrder(Due due) {
    Run run = new Run(due, NO_POINT);
    for (long no : Edges.NO_SLOTS) run.is(Edges.UNKNOWN, "across", 0, no);
  }

  @Sentence(promise = 16, words = "they change nothing")
  static void refusedAcrossesChangeNothing(Due due) {
    for (BigInteger no : noPoints()) {
      Run run = new Run(due, no, ALL, BASE);
      List<Object> before = run.all();
      run.make("across", 0, 1);
      run.make("across", 0, 0);
      run.make("across", 24, 1);
      run.make("across", 2, 24);
      run.stays(before);
    }
  }

  // ---- 17, sum

  private static void sumIs(Due due, int way, BigInteger a, BigInteger b, BigInteger want) {
    Run run = new Run(due, a, b, ALL);
    run.is(1, "sum", way, 0, 1, 2);
    run.has(2, want);
    run.has(0, a);
    run.has(1, b);
  }

  @Sentence(promise = 17, words = "(0, 1) is the neutral one")
  static void togetherWithTheNeutralOne(Due due) {
    for (BigInteger point : new BigInteger[] {BASE, MINUS_BASE, NEUTRAL, MINUS_ONE, ZERO, TOP, SMALL[1]}) {
      sumIs(due, 0, point, NEUTRAL, point);
      sumIs(due, 0, NEUTRAL, point, point);
      sumIs(due, 1, point, NEUTRAL, point);
      sumIs(due, 1, NEUTRAL, point, Model.bytesOf(Model.minus(Model.point(point))));
    }
  }

  @Sentence(promise = 17, words = "the SUM of (x, y) and (v, w)")
  static void aPointAndItself(Due due) {
    sumIs(due, 0, BASE, BASE, timesBase(2));
    sumIs(due, 0, MINUS_BASE, MINUS_BASE, Model.bytesOf(Model.minus(Model.point(timesBase(2)))));
    sumIs(due, 1, BASE, MINUS_BASE, timesBase(2));
    for (int i = 0; i < 8; i++) {
      for (int j = 0; j < 8; j++) {
        sumIs(due, 0, SMALL[i], SMALL[j], SMALL[(i + j) % 8]);
        sumIs(due, 1, SMALL[i], SMALL[j], SMALL[(8 + i - j) % 8]);
      }
    }
  }

  @Sentence(promise = 17, words = "POINT a and POINT b together (way 0), of a less b (1)")
  static void aPointAndItsOpposite(Due due) {
    sumIs(due, 0, BASE, MINUS_BASE, NEUTRAL);
    sumIs(due, 1, BASE, BASE, NEUTRAL);
    sumIs(due, 1, NEUTRAL, NEUTRAL, NEUTRAL);
    sumIs(due, 1, timesBase(3), BASE, timesBase(2));
    sumIs(due, 1, BASE, timesBase(3), Model.bytesOf(Model.minus(Model.point(timesBase(2)))));
  }

  @Sentence(promise = 17, words = "those of y, with the lowest bit of x as the highest one")
  static void bytesOfEvenAndOddX(Due due) {
    sumIs(due, 0, NEUTRAL, BASE, Desk.hex("5866666666666666666666666666666666666666666666666666666666666666"));
    sumIs(due, 1, NEUTRAL, BASE, Desk.hex("58666666666666666666666666666666666666666666666666666666666666e6"));
    // Of x = 0 it is 0, and y = p - 1 stays below p.
    sumIs(due, 1, NEUTRAL, MINUS_ONE, MINUS_ONE);
    sumIs(due, 0, ZERO, ZERO, MINUS_ONE);
    sumIs(due, 0, ZERO, TOP, NEUTRAL);
    sumIs(due, 0, ZERO, MINUS_ONE, TOP);
  }

  @Sentence(promise = 17, words = "SLOT t becomes the BYTES of POINT a and POINT b")
  static void sumOverWhatItReads(Due due) {
    for (int way = 0; way < 2; way++) {
      BigInteger want = timesBase(way == 0 ? 5 : 1);
      for (int t = 0; t < 2; t++) {
        Run run = new Run(due, timesBase(3), timesBase(2));
        run.is(1, "sum", way, 0, 1, t);
        run.has(t, want);
        run.has(1 - t, timesBase(t == 0 ? 2 : 3));
      }
      Run run = new Run(due, BASE);
      run.is(1, "sum", way, 0, 0, 0);
      run.has(0, way == 0 ? timesBase(2) : NEUTRAL);
    }
  }

  @Sentence(promise = 17, words = "UNKNOWN")
  static void sumOfNoSlot(Due due) {
    Run run = new Run(due);
    for (int way = 0; way < 2; way++) {
      for (long no : Edges.NO_SLOTS) {
        run.is(Edges.UNKNOWN, "sum", way, no, 0, 0);
        run.is(Edges.UNKNOWN, "sum", way, 0, no, 0);
        run.is(Edges.UNKNOWN, "sum", way, 0, 0, no);
      }
      run.is(1, "sum", way, 23, 23, 23);
    }
  }

  @Sentence(promise = 17, words = "OUTSIDE")
  static void sumOfNoWay(Due due) {
    Run run = new Run(due, BASE);
    for (long way : new long[] {-1, 2, 3, Edges.LEAST, Edges.MOST}) run.is(Edges.OUTSIDE, "sum", way, 0, 0, 0);
  }

  @Sentence(promise = 17, words = "NONE: a, b")
  static void sumOfNoPoint(Due due) {
    for (BigInteger no : noPoints()) {
      Run run = new Run(due, no, BASE);
      for (int way = 0; way < 2; way++) {
        run.is(Edges.NONE, "sum", way, 0, 1, 2);
        run.is(Edges.NONE, "sum", way, 1, 0, 2);
        run.is(Edges.NONE, "sum", way, 0, 0, 2);
      }
    }
  }

  @Sentence(promise = 17, words = "of several the first as told")
  static void sumRefusalsInOrder(Due due) {
    Run run = new Run(due, NO_POINT, BASE);
    run.is(Edges.UNKNOWN, "sum", 2, 24, 1, 2);
    run.is(Edges.UNKNOWN, "sum", 2, 1, 24, 2);
    run.is(Edges.UNKNOWN, "sum", -1, 1, 1, 24);
    run.is(Edges.UNKNOWN, "sum", 0, 0, 1, 24);
    run.is(Edges.UNKNOWN, "sum", 0, 0, 24, 2);
    run.is(Edges.OUTSIDE, "sum", 2, 0, 1, 2);
    run.is(Edges.OUTSIDE, "sum", -1, 1, 0, 2);
  }

  @Sentence(promise = 17, words = "they change nothing")
  static void refusedSumsChangeNothing(Due due) {
    Run run = new Run(due, NO_POINT, BASE, ALL);
    List<Object> before = run.all();
    run.make("sum", 0, 0, 1, 2);
    run.make("sum", 1, 1, 0, 2);
    run.make("sum", 0, 1, 0, 1);
    run.make("sum", 0, 0, 1, 0);
    run.make("sum", 2, 1, 1, 2);
    run.make("sum", -1, 1, 1, 2);
    run.make("sum", 0, 24, 1, 2);
    run.make("sum", 0, 1, -1, 2);
    run.make("sum", 0, 1, 1, 24);
    run.stays(before);
  }

  // ---- 18, times

  private static void timesIs(Due due, BigInteger k, BigInteger a, BigInteger want) {
    Run run = new Run(due, k, a, ALL);
    run.is(1, "times", 0, 1, 2);
    run.has(2, want);
    run.has(0, k);
    run.has(1, a);
  }

  @Sentence(promise = 18, words = "n times a point is the SUM of n of them")
  static void fewTimesAPoint(Due due) {
    for (BigInteger point : new BigInteger[] {BASE, MINUS_BASE, NEUTRAL, SMALL[1], SMALL[2], SMALL[4]}) {
      timesIs(due, ZERO, point, NEUTRAL);
      timesIs(due, ONE, point, point);
      BigInteger[] twice = Model.sumOf(Model.point(point), Model.point(point));
      timesIs(due, TWO, point, Model.bytesOf(twice));
    }
    timesIs(due, L, BASE, NEUTRAL);
    timesIs(due, L.subtract(ONE), BASE, MINUS_BASE);
    timesIs(due, L.add(ONE), BASE, BASE);
    timesIs(due, ALL, NEUTRAL, NEUTRAL);
  }

  @Sentence(promise = 18, words = "the number that SLOT k is (of all its bits)")
  static void allBitsOfTheFactor(Due due) {
    timesIs(due, TOP, BASE, Model.bytesOf(Model.product(TOP.mod(L), Model.BASE)));
    timesIs(due, ALL, BASE, Model.bytesOf(Model.product(ALL.mod(L), Model.BASE)));
    timesIs(due, P, BASE, Model.bytesOf(Model.product(P.mod(L), Model.BASE)));
    // Of a point of order 8 the lowest three bits alone count: neither modulo L nor with some bits left out.
    for (int i = 0; i < 8; i++) {
      timesIs(due, TOP.add(BigInteger.valueOf(i)), SMALL[1], SMALL[i]);
      timesIs(due, L.multiply(BigInteger.valueOf(i)), SMALL[1], SMALL[5 * i % 8]);
    }
    timesIs(due, ALL, SMALL[1], SMALL[7]);
  }

  @Sentence(promise = 18, words = "SLOT t becomes the BYTES of POINT a times the number")
  static void timesOverWhatItReads(Due due) {
    for (int t = 0; t < 2; t++) {
      Run run = new Run(due, BigInteger.valueOf(5), BASE);
      run.is(1, "times", 0, 1, t);
      run.has(t, timesBase(5));
      run.has(1 - t, t == 0 ? BASE : BigInteger.valueOf(5));
    }
    Run run = new Run(due, BASE);
    run.is(1, "times", 0, 0, 0);
    run.has(0, Model.bytesOf(Model.product(BASE, Model.BASE)));
  }

  @Sentence(promise = 18, words = "Costs 1")
  static void timesCostsOne(Due due) {
    Run run = new Run(due, ZERO, NEUTRAL);
    run.is(1, "times", 0, 1, 2);
    run.is(399, "count", 1);
    run.leaveWork(1);
    run.is(1, "times", 0, 1, 2);
    run.is(0, "count", 1);
  }

  @Sentence(promise = 18, words = "UNKNOWN")
  static void timesOfNoSlot(Due due) {
    Edges.refusesEachSlot(due, "times", 3);
    new Run(due).is(1, "times", 23, 23, 23);
  }

  @Sentence(promise = 18, words = "STATE, when fewer are left (then nothing is done)")
  static void timesWithoutWork(Due due) {
    Run run = new Run(due, TWO, BASE, ALL);
    run.leaveWork(0);
    List<Object> before = run.all();
    run.is(Edges.STATE, "times", 0, 1, 2);
    run.is(Edges.STATE, "times", 0, 1, 2);
    run.stays(before);
  }

  @Sentence(promise = 18, words = "NONE (a SLOT is no POINT)")
  static void timesOfNoPoint(Due due) {
    for (BigInteger no : noPoints()) {
      Run run = new Run(due, no, ZERO);
      run.is(Edges.NONE, "times", 1, 0, 2);
      // k may be any number.
      run.is(1, "times", 0, 1, 2);
    }
  }

  @Sentence(promise = 18, words = "of several the first as told")
  static void timesRefusalsInOrder(Due due) {
    Run run = new Run(due, NO_POINT, BASE);
    run.is(Edges.UNKNOWN, "times", 0, 0, 24);
    run.is(Edges.UNKNOWN, "times", 24, 0, 2);
    run.leaveWork(0);
    run.is(Edges.UNKNOWN, "times", 24, 1, 2);
    run.is(Edges.UNKNOWN, "times", 0, -1, 2);
    run.is(Edges.UNKNOWN, "times", 0, 1, 24);
    run.is(Edges.STATE, "times", 1, 0, 2);
  }

  @Sentence(promise = 18, words = "they change nothing")
  static void refusedTimesChangeNothing(Due due) {
    Run run = new Run(due, NO_POINT, BASE, ALL);
    List<Object> before = run.all();
    run.make("times", 1, 0, 2);
    run.make("times", 1, 0, 0);
    run.make("times", 24, 1, 2);
    run.make("times", 1, -1, 2);
    run.make("times", 1, 1, 24);
    run.stays(before);
  }

  // ---- 19, base

  private static void baseIs(Due due, BigInteger k, BigInteger want) {
    Run run = new Run(due, k, ALL);
    run.is(1, "base", 0, 1);
    run.has(1, want);
    run.has(0, k);
  }

  @Sentence(promise = 19, words = "BASE is the point with y = 4 / 5 and an even x")
  static void fewTimesBase(Due due) {
    baseIs(due, ONE, Desk.hex("5866666666666666666666666666666666666666666666666666666666666666"));
    baseIs(due, ZERO, NEUTRAL);
    baseIs(due, TWO, timesBase(2));
    baseIs(due, L, NEUTRAL);
    baseIs(due, L.subtract(ONE), MINUS_BASE);
    baseIs(due, L.add(ONE), BASE);
  }

  @Sentence(promise = 19, words = "Likewise of BASE")
  static void allBitsOfTheFactorOfBase(Due due) {
    for (BigInteger k : new BigInteger[] {TOP, ALL, P, TOP.add(ONE), L.multiply(BigInteger.valueOf(15)).add(TWO)}) {
      baseIs(due, k, Model.bytesOf(Model.product(k.mod(L), Model.BASE)));
    }
    Run run = new Run(due, BigInteger.valueOf(5));
    run.is(1, "base", 0, 0);
    run.has(0, timesBase(5));
  }

  @Sentence(promise = 19, words = "Costs 1")
  static void baseCostsOne(Due due) {
    Run run = new Run(due);
    run.is(1, "base", 0, 1);
    run.is(399, "count", 1);
    run.leaveWork(1);
    run.is(1, "base", 0, 1);
    run.is(0, "count", 1);
  }

  @Sentence(promise = 19, words = "UNKNOWN")
  static void baseOfNoSlot(Due due) {
    Edges.refusesEachSlot(due, "base", 2);
    new Run(due).is(1, "base", 23, 23);
  }

  @Sentence(promise = 19, words = "STATE, when fewer are left (then nothing is done)")
  static void baseWithoutWork(Due due) {
    Run run = new Run(due, TWO, ALL);
    run.leaveWork(0);
    List<Object> before = run.all();
    run.is(Edges.STATE, "base", 0, 1);
    run.stays(before);
  }

  @Sentence(promise = 19, words = "of several the first as told")
  static void baseRefusalsInOrder(Due due) {
    Run run = new Run(due);
    run.leaveWork(0);
    run.is(Edges.UNKNOWN, "base", 24, 0);
    run.is(Edges.UNKNOWN, "base", 0, -1);
  }

  @Sentence(promise = 19, words = "they change nothing")
  static void refusedBasesChangeNothing(Due due) {
    Run run = new Run(due, TWO, ALL);
    List<Object> before = run.all();
    run.make("base", 24, 1);
    run.make("base", 0, 24);
    run.make("base", -1, -1);
    run.stays(before);
  }

  // ---- 20, small

  private static void smallIs(Due due, long want, BigInteger... points) {
    for (BigInteger point : points) {
      Run run = new Run(due, point);
      run.is(want, "small", 0);
      run.is(400, "count", 1);
      run.has(0, point);
    }
  }

  @Sentence(promise = 20, words = "How often a POINT has to be doubled till it is the neutral one: 0 to 3")
  static void eachOrderBelowNine(Due due) {
    smallIs(due, 0, NEUTRAL);
    smallIs(due, 1, MINUS_ONE);
    smallIs(due, 2, ZERO, TOP);
    smallIs(due, 3, SMALL[1], SMALL[3], SMALL[5], SMALL[7]);
  }

  @Sentence(promise = 20, words = "4: not so")
  static void greatOrders(Due due) {
    smallIs(due, 4, BASE, MINUS_BASE, timesBase(8));
    for (BigInteger small : SMALL) {
      smallIs(due, 4, Model.bytesOf(Model.sumOf(Model.point(small), Model.BASE)));
    }
  }

  @Sentence(promise = 20, words = "UNKNOWN")
  static void smallOfNoSlot(Due due) {
    Edges.refusesEachSlot(due, "small", 1);
    new Run(due).is(2, "small", 23);
  }

  @Sentence(promise = 20, words = "NONE")
  static void smallOfNoPoint(Due due) {
    for (BigInteger no : noPoints()) new Run(due, no).is(Edges.NONE, "small", 0);
  }

  @Sentence(promise = 20, words = "they change nothing")
  static void smallChangesNothing(Due due) {
    Run run = new Run(due, BASE, NO_POINT, SMALL[1]);
    List<Object> before = run.all();
    run.make("small", 0);
    run.make("small", 1);
    run.make("small", 2);
    run.make("small", 24);
    run.stays(before);
  }

  // ---- 21, other

  private static void otherIs(Due due, BigInteger want, BigInteger... points) {
    for (BigInteger point : points) {
      Run run = new Run(due, point, ALL);
      run.is(1, "other", 0, 1);
      run.has(1, want);
      run.has(0, point);
    }
  }

  @Sentence(promise = 21, words = "(0, if y is 1)")
  static void otherOfTheNeutralOne(Due due) {
    otherIs(due, ZERO, NEUTRAL);
  }

  @Sentence(promise = 21, words = "the u of a POINT on the other shape: (1 + y) / (1 - y)")
  static void otherOfSomePoints(Due due) {
    otherIs(due, ZERO, MINUS_ONE);
    otherIs(due, ONE, ZERO, TOP);
    otherIs(due, BigInteger.valueOf(9), BASE, MINUS_BASE);
    for (int i = 1; i < 8; i++) {
      BigInteger y = SMALL[i].clearBit(255);
      otherIs(due, Model.over(ONE.add(y), ONE.subtract(y)), SMALL[i]);
    }
  }

  @Sentence(promise = 21, words = "SLOT t becomes the u of a POINT")
  static void otherOverWhatItReads(Due due) {
    Run run = new Run(due, MINUS_BASE, NEUTRAL);
    run.is(1, "other", 0, 0);
    run.has(0, 9);
    run.is(1, "other", 1, 1);
    run.has(1, 0);
  }

  @Sentence(promise = 21, words = "UNKNOWN")
  static void otherOfNoSlot(Due due) {
    Edges.refusesEachSlot(due, "other", 2);
    new Run(due).is(1, "other", 23, 23);
  }

  @Sentence(promise = 21, words = "NONE")
  static void otherOfNoPoint(Due due) {
    for (BigInteger no : noPoints()) new Run(due, no).is(Edges.NONE, "other", 0, 1);
  }

  @Sentence(promise = 21, words = "of several the first as told")
  static void otherRefusalsInOrder(Due due) {
    Run run = new Run(due, NO_POINT);
    for (long no : Edges.NO_SLOTS) run.is(Edges.UNKNOWN, "other", 0, no);
  }

  @Sentence(promise = 21, words = "they change nothing")
  static void refusedOthersChangeNothing(Due due) {
    Run run = new Run(due, NO_POINT, ALL, BASE);
    List<Object> before = run.all();
    run.make("other", 0, 1);
    run.make("other", 0, 0);
    run.make("other", 24, 1);
    run.make("other", 2, 24);
    run.stays(before);
  }
}
