import java.io.IOException;
import java.math.BigInteger;
import java.util.List;

/** Promises 9 to 14, the sentences that name a boundary case: each has a test of its own. */
public final class FieldEdgesTest {
  private static final BigInteger ZERO = BigInteger.ZERO, ONE = BigInteger.ONE, TWO = BigInteger.TWO;
  private static final BigInteger THREE = BigInteger.valueOf(3), SIX = BigInteger.valueOf(6);
  private static final BigInteger P = Model.P, L = Model.L, ALL = Numbers.ALL, TOP = Desk.two(255);
  /** What p - 1 is: as a divisor and as a factor it is -1. */
  private static final BigInteger MINUS_ONE = P.subtract(ONE);
  private static final BigInteger[] NOTHINGS = {ZERO, P, TOP, P.add(TOP)};
  /** Other slots whose FIELD NUMBER is 3. */
  private static final BigInteger[] THREES = {P.add(THREE), TOP.add(THREE), TOP.add(P).add(THREE)};

  public static void main(String[] args) throws IOException {
    Edges.run(FieldEdgesTest.class, 9, 14);
  }

  // ---- 9, field

  @Sentence(promise = 9, words = "What comes into a SLOT as a FIELD NUMBER is below p")
  static void fieldComesOutBelowP(Due due) {
    Run run = new Run(due, MINUS_ONE, ONE, ZERO, P.subtract(TWO));
    fieldIs(run, 0, 0, 1, ZERO);
    fieldIs(run, 0, 1, 0, ZERO);
    fieldIs(run, 0, 0, 0, P.subtract(TWO));
    fieldIs(run, 0, 3, 1, MINUS_ONE);
    fieldIs(run, 0, 0, 2, MINUS_ONE);
    fieldIs(run, 1, 2, 1, MINUS_ONE);
    fieldIs(run, 1, 2, 0, ONE);
    fieldIs(run, 1, 0, 0, ZERO);
    fieldIs(run, 1, 3, 0, MINUS_ONE);
    fieldIs(run, 2, 0, 0, ONE);
    fieldIs(run, 2, 0, 1, MINUS_ONE);
    fieldIs(run, 2, 2, 0, ZERO);
    fieldIs(run, 3, 1, 0, MINUS_ONE);
    fieldIs(run, 3, 0, 0, ONE);
    fieldIs(run, 3, 2, 0, ZERO);
  }

  private static void fieldIs(Run run, int way, int a, int b, BigInteger want) {
    run.is(1, "field", way, a, b, 9);
    run.has(9, want);
  }

  @Sentence(promise = 9, words = "A FIELD NUMBER of a SLOT is that of its lowest 255 bits, modulo p")
  static void fieldOfOtherSlotsOfANumber(Due due) {
    for (BigInteger three : THREES) {
      Run run = new Run(due, three, SIX, three);
      fieldIs(run, 0, 0, 1, BigInteger.valueOf(9));
      fieldIs(run, 0, 1, 0, BigInteger.valueOf(9));
      fieldIs(run, 1, 0, 1, P.subtract(THREE));
      fieldIs(run, 1, 1, 0, THREE);
      fieldIs(run, 2, 0, 1, BigInteger.valueOf(18));
      fieldIs(run, 2, 1, 0, BigInteger.valueOf(18));
      fieldIs(run, 3, 1, 0, TWO);
      fieldIs(run, 3, 0, 2, ONE);
    }
    Run run = new Run(due, ALL, ALL.clearBit(255), ONE);
    fieldIs(run, 2, 0, 2, BigInteger.valueOf(18));
    fieldIs(run, 1, 1, 2, BigInteger.valueOf(17));
  }

  @Sentence(promise = 9, words = "SLOT t becomes the FIELD NUMBER of a and b (way): 0 a + b, 1 a - b, 2 a b, 3 a / b")
  static void fieldOverWhatItReads(Due due) {
    BigInteger[] dues = {BigInteger.valueOf(9), THREE, BigInteger.valueOf(18), TWO};
    BigInteger[] ofOne = {BigInteger.valueOf(12), ZERO, BigInteger.valueOf(36), ONE};
    for (int way = 0; way < 4; way++) {
      Run run = new Run(due, SIX, THREE, SIX, THREE, SIX);
      run.is(1, "field", way, 0, 1, 0);
      run.has(0, dues[way]);
      run.has(1, THREE);
      run.is(1, "field", way, 2, 3, 3);
      run.has(3, dues[way]);
      run.has(2, SIX);
      run.is(1, "field", way, 4, 4, 4);
      run.has(4, ofOne[way]);
    }
  }

  @Sentence(promise = 9, words = "UNKNOWN: a, b, t")
  static void fieldOfNoSlot(Due due) {
    for (int way = 0; way < 4; way++) {
      Run run = new Run(due, ONE);
      for (long no : Edges.NO_SLOTS) {
        run.is(Edges.UNKNOWN, "field", way, no, 0, 0);
        run.is(Edges.UNKNOWN, "field", way, 0, no, 0);
        run.is(Edges.UNKNOWN, "field", way, 0, 0, no);
      }
      run.is(1, "field", way, 0, 0, 23);
    }
  }

  @Sentence(promise = 9, words = "OUTSIDE: way")
  static void fieldOfNoWay(Due due) {
    Run run = new Run(due, SIX, THREE);
    for (long way : new long[] {-1, 4, Edges.LEAST, Edges.MOST}) run.is(Edges.OUTSIDE, "field", way, 0, 1, 2);
  }

  @Sentence(promise = 9, words = "STATE: 3, and b is 0")
  static void dividingByNothing(Due due) {
    for (BigInteger nothing : NOTHINGS) {
      Run run = new Run(due, SIX, nothing);
      run.is(Edges.STATE, "field", 3, 0, 1, 2);
      run.is(Edges.STATE, "field", 3, 1, 1, 2);
      for (int way = 0; way < 3; way++) run.is(1, "field", way, 0, 1, 2);
      run.is(1, "field", 3, 1, 0, 2);
      run.has(2, ZERO);
    }
  }

  @Sentence(promise = 9, words = "of several the first as told")
  static void fieldRefusalsInOrder(Due due) {
    Run run = new Run(due, SIX);
    run.is(Edges.UNKNOWN, "field", 4, 24, 0, 0);
    run.is(Edges.UNKNOWN, "field", -1, 0, 24, 0);
    run.is(Edges.UNKNOWN, "field", 4, 0, 0, 24);
    run.is(Edges.UNKNOWN, "field", 3, 0, 1, 24);
    run.is(Edges.UNKNOWN, "field", 3, 24, 1, 0);
    run.is(Edges.OUTSIDE, "field", 4, 0, 1, 0);
    run.is(Edges.OUTSIDE, "field", -1, 0, 1, 0);
  }

  @Sentence(promise = 9, words = "they change nothing")
  static void refusedFieldsChangeNothing(Due due) {
    Run run = new Run(due, ALL, ZERO, ALL);
    List<Object> before = run.all();
    for (int way = 0; way < 4; way++) {
      run.make("field", way, 24, 0, 2);
      run.make("field", way, 0, -1, 2);
      run.make("field", way, 0, 2, 24);
    }
    run.make("field", 4, 0, 0, 2);
    run.make("field", -1, 0, 0, 2);
    run.make("field", 3, 0, 1, 2);
    run.make("field", 3, 0, 1, 1);
    run.stays(before);
  }

  // ---- 10, power

  @Sentence(promise = 10, words = "(0 to 0 is 1)")
  static void anyNumberToNothing(Due due) {
    for (BigInteger nothing : NOTHINGS) {
      Run run = new Run(due, nothing, ZERO);
      run.is(1, "power", 0, 1, 2);
      run.has(2, ONE);
    }
    Run run = new Run(due, ALL, ZERO);
    run.is(1, "power", 0, 1, 2);
    run.has(2, ONE);
    run.is(1, "power", 1, 1, 1);
    run.has(1, ONE);
  }

  @Sentence(promise = 10, words = "the number that SLOT b is")
  static void allBitsOfThePower(Due due) {
    // 2^255 is p - 1 and 20.
    powerIs(due, TWO, TOP, Desk.two(20));
    powerIs(due, TWO, Desk.two(8), TWO.modPow(BigInteger.valueOf(256), P));
    powerIs(due, THREE, ALL, THREE.modPow(ALL, P));
    powerIs(due, MINUS_ONE, ALL, MINUS_ONE);
    powerIs(due, MINUS_ONE, TOP, ONE);
    powerIs(due, THREE, P, THREE);
    powerIs(due, THREE, P.subtract(ONE), ONE);
    powerIs(due, THREE, P.subtract(TWO), THREE.modInverse(P));
    powerIs(due, ZERO, ONE, ZERO);
    powerIs(due, ZERO, P, ZERO);
    powerIs(due, ZERO, P.subtract(ONE), ZERO);
    powerIs(due, ZERO, TOP, ZERO);
  }

  private static void powerIs(Due due, BigInteger a, BigInteger b, BigInteger want) {
    Run run = new Run(due, a, b);
    run.is(1, "power", 0, 1, 2);
    run.has(2, want);
  }

  @Sentence(promise = 10, words = "A FIELD NUMBER of a SLOT is that of its lowest 255 bits, modulo p")
  static void powerOfOtherSlotsOfANumber(Due due) {
    for (BigInteger three : THREES) {
      powerIs(due, three, ONE, THREE);
      powerIs(due, three, TWO, BigInteger.valueOf(9));
    }
    for (BigInteger nothing : NOTHINGS) powerIs(due, nothing, ONE, ZERO);
    powerIs(due, ALL, ONE, BigInteger.valueOf(18));
  }

  @Sentence(promise = 10, words = "What comes into a SLOT as a FIELD NUMBER is below p")
  static void powerComesOutBelowP(Due due) {
    powerIs(due, MINUS_ONE, ONE, MINUS_ONE);
    powerIs(due, MINUS_ONE, TWO, ONE);
    powerIs(due, MINUS_ONE, THREE, MINUS_ONE);
    powerIs(due, TWO, BigInteger.valueOf(254), Desk.two(254));
    powerIs(due, TWO, BigInteger.valueOf(255), BigInteger.valueOf(19));
  }

  @Sentence(promise = 10, words = "SLOT t becomes the FIELD NUMBER a to the power")
  static void powerOverWhatItReads(Due due) {
    Run run = new Run(due, TWO, SIX, TWO, SIX, THREE);
    run.is(1, "power", 0, 1, 0);
    run.has(0, 64);
    run.has(1, SIX);
    run.is(1, "power", 2, 3, 3);
    run.has(3, 64);
    run.has(2, TWO);
    run.is(1, "power", 4, 4, 4);
    run.has(4, 27);
  }

  @Sentence(promise = 10, words = "UNKNOWN")
  static void powerOfNoSlot(Due due) {
    Edges.refusesEachSlot(due, "power", 3);
    new Run(due).is(1, "power", 23, 23, 23);
  }

  @Sentence(promise = 10, words = "they change nothing")
  static void refusedPowersChangeNothing(Due due) {
    Run run = new Run(due, ALL, SIX);
    List<Object> before = run.all();
    run.make("power", 24, 0, 1);
    run.make("power", 0, -1, 1);
    run.make("power", 0, 1, 24);
    run.stays(before);
  }

  // ---- 11, root

  @Sentence(promise = 11, words = "the even FIELD NUMBER (as a whole number below p) whose square is that of a")
  static void theEvenOneOfBothRoots(Due due) {
    rootIs(due, ONE, P.subtract(ONE));
    rootIs(due, BigInteger.valueOf(4), TWO);
    rootIs(due, BigInteger.valueOf(9), P.subtract(THREE));
    rootIs(due, BigInteger.valueOf(16), BigInteger.valueOf(4));
    rootIs(due, Desk.two(254), Desk.two(127));
    BigInteger ofMinusOne = TWO.modPow(P.shiftRight(2), P);
    rootIs(due, MINUS_ONE, ofMinusOne.testBit(0) ? P.subtract(ofMinusOne) : ofMinusOne);
    BigInteger half = P.shiftRight(1);
    rootIs(due, half.pow(2).mod(P), half.testBit(0) ? P.subtract(half) : half);
  }

  private static void rootIs(Due due, BigInteger a, BigInteger want) {
    Run run = new Run(due, a, ALL);
    run.is(1, "root", 0, 1);
    run.has(1, want);
    run.has(0, a);
  }

  @Sentence(promise = 11, words = "What comes into a SLOT as a FIELD NUMBER is below p")
  static void rootOfNothing(Due due) {
    for (BigInteger nothing : NOTHINGS) rootIs(due, nothing, ZERO);
  }

  @Sentence(promise = 11, words = "A FIELD NUMBER of a SLOT is that of its lowest 255 bits, modulo p")
  static void rootOfOtherSlotsOfANumber(Due due) {
    BigInteger four = BigInteger.valueOf(4);
    rootIs(due, P.add(four), TWO);
    rootIs(due, TOP.add(four), TWO);
    rootIs(due, TOP.add(P).add(four), TWO);
    rootIs(due, TOP.add(ONE), MINUS_ONE);
  }

  @Sentence(promise = 11, words = "0: there is none (t stays)")
  static void noRoot(Due due) {
    for (BigInteger none : new BigInteger[] {TWO, P.subtract(TWO), P.add(TWO), TOP.add(TWO), BigInteger.valueOf(8)}) {
      Run run = new Run(due, none, ALL);
      run.is(0, "root", 0, 1);
      run.has(1, ALL);
      run.is(0, "root", 0, 0);
      run.has(0, none);
    }
  }

  @Sentence(promise = 11, words = "SLOT t becomes the even FIELD NUMBER")
  static void rootOverWhatItReads(Due due) {
    Run run = new Run(due, BigInteger.valueOf(81));
    run.is(1, "root", 0, 0);
    run.has(0, P.subtract(BigInteger.valueOf(9)));
  }

  @Sentence(promise = 11, words = "UNKNOWN")
  static void rootOfNoSlot(Due due) {
    Edges.refusesEachSlot(due, "root", 2);
    Run run = new Run(due, TWO);
    run.is(Edges.UNKNOWN, "root", 0, 24);
    run.is(Edges.UNKNOWN, "root", 0, -1);
    run.is(1, "root", 23, 23);
  }

  @Sentence(promise = 11, words = "they change nothing")
  static void refusedRootsChangeNothing(Due due) {
    Run run = new Run(due, BigInteger.valueOf(4), ALL);
    List<Object> before = run.all();
    run.make("root", 24, 1);
    run.make("root", -1, 0);
    run.make("root", 0, 24);
    run.make("root", 0, -1);
    run.stays(before);
  }

  // ---- 12, about

  private static void aboutIs(Due due, int what, long want, BigInteger... numbers) {
    for (BigInteger n : numbers) {
      Run run = new Run(due);
      run.put(23, n);
      run.is(want, "about", 23, what);
    }
  }

  @Sentence(promise = 12, words = "what = 0 whether it is below p (1, 0)")
  static void belowP(Due due) {
    aboutIs(due, 0, 1, ZERO, ONE, MINUS_ONE, L, Desk.two(254));
    aboutIs(due, 0, 0, P, P.add(ONE), TOP.subtract(ONE), TOP, TOP.add(ONE), TOP.add(P), ALL);
  }

  @Sentence(promise = 12, words = "1 whether it is below L")
  static void belowL(Due due) {
    aboutIs(due, 1, 1, ZERO, ONE, L.subtract(ONE), Desk.two(252));
    aboutIs(due, 1, 0, L, L.add(ONE), L.add(L), MINUS_ONE, TOP, TOP.add(ONE), Desk.two(253), ALL);
  }

  @Sentence(promise = 12, words = "2 whether its FIELD NUMBER is 0")
  static void whetherItIsNothing(Due due) {
    aboutIs(due, 2, 1, NOTHINGS);
    aboutIs(due, 2, 0, ONE, MINUS_ONE, P.add(ONE), TOP.add(ONE), TOP.subtract(ONE), L, ALL);
  }

  @Sentence(promise = 12, words = "3 the lowest bit of its FIELD NUMBER")
  static void lowestBit(Due due) {
    aboutIs(due, 3, 0, ZERO, TWO, P, MINUS_ONE, P.add(TWO), TOP, TOP.add(P), TOP.add(TWO), ALL);
    aboutIs(due, 3, 1, ONE, P.subtract(TWO), P.add(ONE), TOP.add(ONE), TOP.add(P).add(ONE));
  }

  @Sentence(promise = 12, words = "4 how many bits it has (its highest 1's place and 1; 0 of 0)")
  static void howManyBits(Due due) {
    aboutIs(due, 4, 0, ZERO);
    aboutIs(due, 4, 1, ONE);
    for (int i : new int[] {1, 31, 32, 63, 64, 127, 128, 191, 192, 254, 255}) {
      aboutIs(due, 4, i + 1, Desk.two(i), Desk.two(i).add(ONE), Desk.two(i + 1).subtract(ONE));
    }
    aboutIs(due, 4, 255, P);
    aboutIs(due, 4, 256, ALL);
  }

  @Sentence(promise = 12, words = "UNKNOWN")
  static void aboutNoSlot(Due due) {
    Run run = new Run(due);
    for (long no : Edges.NO_SLOTS) {
      for (int what = 0; what < 5; what++) run.is(Edges.UNKNOWN, "about", no, what);
    }
  }

  @Sentence(promise = 12, words = "OUTSIDE")
  static void aboutNothingThatIsTold(Due due) {
    Run run = new Run(due);
    for (long what : new long[] {-1, 5, Edges.LEAST, Edges.MOST}) run.is(Edges.OUTSIDE, "about", 0, what);
  }

  @Sentence(promise = 12, words = "of several the first as told")
  static void aboutRefusalsInOrder(Due due) {
    new Run(due).is(Edges.UNKNOWN, "about", 24, 5);
    new Run(due).is(Edges.UNKNOWN, "about", -1, -1);
  }

  @Sentence(promise = 12, words = "they change nothing")
  static void aboutChangesNothing(Due due) {
    Run run = new Run(due, ALL, P);
    List<Object> before = run.all();
    for (int what = -1; what <= 5; what++) {
      run.make("about", 0, what);
      run.make("about", 1, what);
      run.make("about", 24, what);
    }
    run.stays(before);
  }

  // ---- 13, compare

  @Sentence(promise = 13, words = "a against b, as numbers of all their bits: -1, 0, 1")
  static void allBitsAreCompared(Due due) {
    compareIs(due, ZERO, ONE);
    compareIs(due, ZERO, ALL);
    compareIs(due, ZERO, P);
    compareIs(due, THREE, P.add(THREE));
    compareIs(due, P, TOP);
    compareIs(due, TOP.subtract(ONE), TOP);
    compareIs(due, ONE, TOP.add(ONE));
    compareIs(due, ALL.subtract(ONE), ALL);
    for (int i : new int[] {63, 64, 127, 128, 191, 192, 255}) {
      compareIs(due, ONE, Desk.two(i));
      compareIs(due, Desk.two(i).subtract(ONE), Desk.two(i));
      compareIs(due, Desk.two(i), Desk.two(i).add(ONE));
    }
    // A higher word decides, whatever the lower ones say.
    compareIs(due, Desk.two(192).subtract(ONE), Desk.two(192));
    compareIs(due, Desk.two(64).add(ALL.shiftRight(193).shiftLeft(128)), Desk.two(255));
  }

  private static void compareIs(Due due, BigInteger less, BigInteger more) {
    Run run = new Run(due, less, more);
    run.is(-1, "compare", 0, 1);
    run.is(1, "compare", 1, 0);
    run.is(0, "compare", 0, 0);
    run.make("copy", 1, 2);
    run.is(0, "compare", 1, 2);
  }

  @Sentence(promise = 13, words = "UNKNOWN (as -101)")
  static void compareOfNoSlot(Due due) {
    Run run = new Run(due);
    for (long no : Edges.NO_SLOTS) {
      run.is(-101, "compare", no, 0);
      run.is(-101, "compare", 0, no);
      run.is(-101, "compare", no, no);
    }
    run.is(0, "compare", 0, 23);
  }

  @Sentence(promise = 13, words = "they change nothing")
  static void comparesChangeNothing(Due due) {
    Run run = new Run(due, ALL, P);
    List<Object> before = run.all();
    run.make("compare", 0, 1);
    run.make("compare", 0, 24);
    run.make("compare", -1, 1);
    run.stays(before);
  }

  // ---- 14, scalar

  private static void scalarIs(Due due, BigInteger a, BigInteger b, BigInteger c, BigInteger want) {
    Run run = new Run(due, a, b, c, ALL);
    run.is(1, "scalar", 0, 1, 2, 3);
    run.has(3, want);
  }

  @Sentence(promise = 14, words = "as a SCALAR below L")
  static void scalarComesOutBelowL(Due due) {
    BigInteger minusOne = L.subtract(ONE);
    scalarIs(due, ZERO, ZERO, ZERO, ZERO);
    scalarIs(due, ZERO, ALL, L, ZERO);
    scalarIs(due, ONE, L, ZERO, ZERO);
    scalarIs(due, L, ONE, ZERO, ZERO);
    scalarIs(due, ONE, minusOne, ONE, ZERO);
    scalarIs(due, minusOne, minusOne, minusOne, ZERO);
    scalarIs(due, minusOne, minusOne, ZERO, ONE);
    scalarIs(due, minusOne, ONE, ZERO, minusOne);
    scalarIs(due, ZERO, ZERO, minusOne, minusOne);
    scalarIs(due, minusOne, TWO, ONE, minusOne);
  }

  @Sentence(promise = 14, words = "modulo L (of all their bits)")
  static void allBitsOfTheScalars(Due due) {
    scalarIs(due, ALL, ONE, ZERO, ALL.mod(L));
    scalarIs(due, ONE, ALL, ZERO, ALL.mod(L));
    scalarIs(due, ZERO, ZERO, ALL, ALL.mod(L));
    scalarIs(due, TOP, ONE, ZERO, TOP.mod(L));
    scalarIs(due, ONE, TOP, ZERO, TOP.mod(L));
    scalarIs(due, ZERO, ONE, TOP, TOP.mod(L));
    scalarIs(due, P, ONE, ZERO, P.mod(L));
    scalarIs(due, ZERO, ONE, P, P.mod(L));
    scalarIs(due, ALL, ALL, ALL, ALL.multiply(ALL).add(ALL).mod(L));
    BigInteger fifteen = L.multiply(BigInteger.valueOf(15));
    scalarIs(due, fifteen.add(TWO), fifteen.add(THREE), fifteen.add(ONE), BigInteger.valueOf(7));
  }

  @Sentence(promise = 14, words = "SLOT t becomes the SCALAR a b + c")
  static void scalarOverWhatItReads(Due due) {
    for (int t = 0; t < 3; t++) {
      Run run = new Run(due, TWO, THREE, SIX);
      run.is(1, "scalar", 0, 1, 2, t);
      run.has(t, 12);
      for (int s = 0; s < 3; s++) {
        if (s != t) run.has(s, s == 0 ? TWO : s == 1 ? THREE : SIX);
      }
      run.is(1, "scalar", t, t, t, t);
      run.has(t, 156);
    }
  }

  @Sentence(promise = 14, words = "UNKNOWN")
  static void scalarOfNoSlot(Due due) {
    Edges.refusesEachSlot(due, "scalar", 4);
    new Run(due).is(1, "scalar", 23, 23, 23, 23);
  }

  @Sentence(promise = 14, words = "they change nothing")
  static void refusedScalarsChangeNothing(Due due) {
    Run run = new Run(due, ALL, SIX);
    List<Object> before = run.all();
    run.make("scalar", 24, 0, 0, 1);
    run.make("scalar", 0, -1, 0, 1);
    run.make("scalar", 0, 0, 24, 1);
    run.make("scalar", 0, 0, 0, 24);
    run.stays(before);
  }
}
