import java.io.IOException;
import java.math.BigInteger;
import java.util.Arrays;
import java.util.List;

/** Promises 22 to 27, the sentences that name a boundary case: each has a test of its own. */
public final class SecretsEdgesTest {
  private static final BigInteger ZERO = BigInteger.ZERO, ONE = BigInteger.ONE, TWO = BigInteger.TWO;
  private static final BigInteger NINE = BigInteger.valueOf(9), SECRET = BigInteger.valueOf(0x5ec4e7L);
  private static final BigInteger P = Model.P, L = Model.L, ALL = Numbers.ALL, TOP = Desk.two(255);
  private static final BigInteger BASE = Model.bytesOf(Model.BASE), NEUTRAL = ONE, NO_POINT = TWO;
  private static final BigInteger K = Desk.hex("a546e36bf0527c9d3b16154b82465edd62144c0ac1fc5a18506a2244ba449ac4");
  /** Where a block of SHA-512 ends, and where what stands behind the bytes no longer fits into it. */
  private static final int[] LENGTHS = {
    0, 1, 110, 111, 112, 127, 128, 129, 239, 240, 255, 256, 367, 368, 383, 384, 399, 400
  };

  public static void main(String[] args) throws IOException {
    Edges.run(SecretsEdgesTest.class, 22, 27);
  }

  private static byte[] text(int length) {
    byte[] text = new byte[length];
    Arrays.fill(text, (byte) 0xa7);
    return text;
  }

  private static Run withText(Due due, int length, BigInteger... numbers) {
    Run run = new Run(due, numbers);
    run.type(0xa7, length);
    return run;
  }

  // ---- 22, share

  private static void shareIs(Due due, BigInteger k, BigInteger u, BigInteger want) {
    Run run = new Run(due, k, u, ALL);
    run.is(want.signum(), "share", 0, 1, 2);
    run.has(2, want);
    run.has(0, k);
    run.has(1, u);
    run.is(399, "count", 1);
  }

  @Sentence(promise = 22, words = "the lowest three bits of k count as 0")
  static void lowestBitsOfK(Due due) {
    BigInteger want = Model.ladder(K, NINE);
    for (int i = 0; i < 8; i++) shareIs(due, K.shiftRight(3).shiftLeft(3).add(BigInteger.valueOf(i)), NINE, want);
    shareIs(due, K.flipBit(3), NINE, Model.ladder(K.flipBit(3), NINE));
  }

  @Sentence(promise = 22, words = "bit 255 as 0")
  static void highestBitOfK(Due due) {
    shareIs(due, K.clearBit(255), NINE, Model.ladder(K, NINE));
    shareIs(due, K.setBit(255), NINE, Model.ladder(K, NINE));
  }

  @Sentence(promise = 22, words = "bit 254 as 1")
  static void secondBitOfK(Due due) {
    shareIs(due, K.clearBit(254), NINE, Model.ladder(K, NINE));
    shareIs(due, K.setBit(254), NINE, Model.ladder(K, NINE));
    shareIs(due, K.flipBit(253), NINE, Model.ladder(K.flipBit(253), NINE));
    BigInteger ofTwo254 = Model.over(ONE.add(yOf(Desk.two(254))), ONE.subtract(yOf(Desk.two(254))));
    for (BigInteger none : new BigInteger[] {ZERO, BigInteger.valueOf(7), TOP, Desk.two(254), TOP.add(TWO)}) {
      shareIs(due, none, NINE, ofTwo254);
    }
  }

  private static BigInteger yOf(BigInteger n) {
    return Model.product(n, Model.BASE)[1];
  }

  @Sentence(promise = 22, words = "by the ladder of that text, for any u")
  static void anyU(Due due) {
    // Some of these are on y^2 = x^3 + 486662 x^2 + x, some are not.
    for (int i = 2; i < 12; i++) {
      BigInteger u = BigInteger.valueOf(i);
      shareIs(due, K, u, Model.ladder(K, u));
      shareIs(due, ALL, P.subtract(u), Model.ladder(ALL, P.subtract(u)));
    }
  }

  @Sentence(promise = 22, words = "what is at infinity is 0")
  static void atInfinity(Due due) {
    BigInteger[] us = {
      ZERO, ONE, P.subtract(ONE), P, P.add(ONE), TOP, TOP.add(ONE), TOP.add(P),
      Desk.hex("e0eb7a7c3b41b8ae1656e3faf19fc46ada098deb9c32b1fd866205165f49b800"),
      Desk.hex("5f9c95bca3508c24b1d0b1559c83ef5b04445cc4581c8e86d8224eddd09f1157")
    };
    for (BigInteger u : us) {
      for (BigInteger k : new BigInteger[] {K, ZERO, ALL}) shareIs(due, k, u, ZERO);
    }
  }

  @Sentence(promise = 22, words = "1; 0: it is 0")
  static void shareToldAsNothing(Due due) {
    Run run = new Run(due, K, ZERO, ALL, NINE);
    run.is(0, "share", 0, 1, 2);
    run.has(2, 0);
    run.is(1, "share", 0, 3, 2);
    run.is(0, "share", 0, 1, 0);
    run.has(0, 0);
    run.is(397, "count", 1);
  }

  @Sentence(promise = 22, words = "the FIELD NUMBER of SLOT u")
  static void otherSlotsOfAU(Due due) {
    BigInteger want = Model.ladder(K, NINE);
    for (BigInteger u : new BigInteger[] {P.add(NINE), TOP.add(NINE), TOP.add(P).add(NINE)}) shareIs(due, K, u, want);
    shareIs(due, K, ALL, Model.ladder(K, BigInteger.valueOf(18)));
  }

  @Sentence(promise = 22, words = "SLOT t becomes X25519 of SLOT k")
  static void shareOverWhatItReads(Due due) {
    BigInteger want = Model.ladder(K, NINE);
    for (int t = 0; t < 2; t++) {
      Run run = new Run(due, K, NINE);
      run.is(1, "share", 0, 1, t);
      run.has(t, want);
      run.has(1 - t, t == 0 ? NINE : K);
    }
    Run run = new Run(due, K);
    run.is(1, "share", 0, 0, 0);
    run.has(0, Model.ladder(K, Model.fieldNumber(K)));
  }

  @Sentence(promise = 22, words = "Costs 1")
  static void shareCostsOne(Due due) {
    Run run = new Run(due, K, NINE);
    run.is(1, "share", 0, 1, 2);
    run.is(399, "count", 1);
    run.leaveWork(1);
    run.is(1, "share", 0, 1, 2);
    run.is(0, "count", 1);
  }

  @Sentence(promise = 22, words = "UNKNOWN")
  static void shareOfNoSlot(Due due) {
    Edges.refusesEachSlot(due, "share", 3);
    new Run(due).is(0, "share", 23, 23, 23);
  }

  @Sentence(promise = 22, words = "STATE, when fewer are left (then nothing is done)")
  static void shareWithoutWork(Due due) {
    Run run = new Run(due, K, NINE, ALL);
    run.leaveWork(0);
    List<Object> before = run.all();
    run.is(Edges.STATE, "share", 0, 1, 2);
    run.is(Edges.STATE, "share", 0, 3, 2);
    run.stays(before);
  }

  @Sentence(promise = 22, words = "of several the first as told")
  static void shareRefusalsInOrder(Due due) {
    Run run = new Run(due, K, NINE);
    run.leaveWork(0);
    run.is(Edges.UNKNOWN, "share", 24, 1, 2);
    run.is(Edges.UNKNOWN, "share", 0, -1, 2);
    run.is(Edges.UNKNOWN, "share", 0, 1, 24);
  }

  @Sentence(promise = 22, words = "they change nothing")
  static void refusedSharesChangeNothing(Due due) {
    Run run = new Run(due, K, NINE, ALL);
    List<Object> before = run.all();
    run.make("share", 24, 1, 2);
    run.make("share", 0, -1, 2);
    run.make("share", 0, 1, 24);
    run.stays(before);
  }

  // ---- 23, digest

  @Sentence(promise = 23, words = "SHA-512 of THE TEXT")
  static void textsOfAnyLength(Due due) {
    for (int length : LENGTHS) {
      Run run = withText(due, length);
      run.is(1, "digest", 5);
      byte[] want = Model.sha(text(length));
      run.has(5, Desk.number(Arrays.copyOf(want, 32)));
      run.has(6, Desk.number(Arrays.copyOfRange(want, 32, 64)));
      run.is(length, "count", 0);
      run.is(400, "count", 1);
    }
  }

  @Sentence(promise = 23, words = "none at first")
  static void noText(Due due) {
    String want = "cf83e1357eefb8bdf1542850d66d8007d620e4050b5715dc83f4a921d36ce9ce"
        + "47d0d13c5d85f2b0ff8318d2877eec2f63b931bd47417a81a538327af927da3e";
    Run run = new Run(due);
    run.is(1, "digest", 0);
    run.has(0, Desk.hex(want.substring(0, 64)));
    run.has(1, Desk.hex(want.substring(64)));
    run.type(1, 200);
    run.make("digest", 5);
    run.make("clear");
    run.is(1, "digest", 2);
    run.has(2, Desk.hex(want.substring(0, 64)));
    run.has(3, Desk.hex(want.substring(64)));
  }

  @Sentence(promise = 23, words = "SLOTS t, t + 1 become SHA-512")
  static void firstAndLastPairs(Due due) {
    byte[] want = Model.sha();
    for (int t : new int[] {0, 22}) {
      Run run = new Run(due);
      run.is(1, "digest", t);
      run.has(t, Desk.number(Arrays.copyOf(want, 32)));
      run.has(t + 1, Desk.number(Arrays.copyOfRange(want, 32, 64)));
      run.has(t == 0 ? 2 : 21, 0);
    }
  }

  @Sentence(promise = 23, words = "UNKNOWN: one of both")
  static void noSuchPair(Due due) {
    Run run = new Run(due);
    for (long no : new long[] {-2, -1, 23, 24, Edges.LEAST, Edges.MOST}) run.is(Edges.UNKNOWN, "digest", no);
  }

  @Sentence(promise = 23, words = "they change nothing")
  static void refusedDigestsChangeNothing(Due due) {
    Run run = withText(due, 3);
    List<Object> before = run.all();
    for (long no : new long[] {-1, 23, 24}) run.make("digest", no);
    run.stays(before);
  }

  // ---- 24, key

  private static void keyIs(Due due, BigInteger secret) {
    Run run = new Run(due, secret, ALL);
    run.is(1, "key", 0, 1);
    run.has(1, Model.publicKey(secret));
    run.has(0, secret);
  }

  /** Keys of secrets whose h has these bits. */
  private static void keysWithBit(Due due, int bit, boolean is) {
    int seen = 0;
    for (int i = 0; seen < 3; i++) {
      BigInteger secret = BigInteger.valueOf(i);
      if (Desk.number(Model.sha(Model.row(secret))).testBit(bit) != is) continue;
      seen++;
      keyIs(due, secret);
    }
  }

  @Sentence(promise = 24, words = "the lowest three bits counting as 0")
  static void lowestBitsOfA(Due due) {
    for (int bit = 0; bit < 3; bit++) keysWithBit(due, bit, true);
  }

  @Sentence(promise = 24, words = "bit 255 as 0")
  static void highestBitOfA(Due due) {
    keysWithBit(due, 255, true);
  }

  @Sentence(promise = 24, words = "bit 254 as 1")
  static void secondBitOfA(Due due) {
    keysWithBit(due, 254, false);
  }

  @Sentence(promise = 24, words = "a SECRET is a SLOT; h is SHA-512 of its bytes")
  static void allBitsOfASecret(Due due) {
    for (BigInteger secret : new BigInteger[] {ZERO, ONE, TOP, P, P.add(ONE), L, ALL}) keyIs(due, secret);
  }

  @Sentence(promise = 24, words = "SLOT t becomes the PUBLIC KEY of SECRET s")
  static void keyOverItsSecret(Due due) {
    Run run = withText(due, 5, SECRET);
    run.is(1, "key", 0, 0);
    run.has(0, Model.publicKey(SECRET));
    run.is(5, "count", 0);
  }

  @Sentence(promise = 24, words = "Costs 1")
  static void keyCostsOne(Due due) {
    Run run = new Run(due, SECRET);
    run.is(1, "key", 0, 1);
    run.is(399, "count", 1);
    run.leaveWork(1);
    run.is(1, "key", 0, 1);
    run.is(0, "count", 1);
  }

  @Sentence(promise = 24, words = "UNKNOWN")
  static void keyOfNoSlot(Due due) {
    Edges.refusesEachSlot(due, "key", 2);
    new Run(due).is(1, "key", 23, 23);
  }

  @Sentence(promise = 24, words = "STATE, when fewer are left (then nothing is done)")
  static void keyWithoutWork(Due due) {
    Run run = new Run(due, SECRET, ALL);
    run.leaveWork(0);
    List<Object> before = run.all();
    run.is(Edges.STATE, "key", 0, 1);
    run.stays(before);
  }

  @Sentence(promise = 24, words = "of several the first as told")
  static void keyRefusalsInOrder(Due due) {
    Run run = new Run(due, SECRET);
    run.leaveWork(0);
    run.is(Edges.UNKNOWN, "key", 24, 0);
    run.is(Edges.UNKNOWN, "key", 0, -1);
  }

  @Sentence(promise = 24, words = "they change nothing")
  static void refusedKeysChangeNothing(Due due) {
    Run run = new Run(due, SECRET, ALL);
    List<Object> before = run.all();
    run.make("key", 24, 1);
    run.make("key", 0, 24);
    run.make("key", -1, -1);
    run.stays(before);
  }

  // ---- 25, sign

  @Sentence(promise = 25, words = "the SIGNATURE (R, S) of THE TEXT by SECRET s")
  static void signaturesOfAnyLength(Due due) {
    for (int length : LENGTHS) {
      Run run = withText(due, length, SECRET);
      run.is(1, "sign", 0, 1);
      BigInteger[] want = Model.signature(SECRET, text(length));
      run.has(1, want[0]);
      run.has(2, want[1]);
      run.has(0, SECRET);
      run.is(length, "count", 0);
    }
  }

  @Sentence(promise = 25, words = "S is r + k a, modulo L")
  static void sIsBelowL(Due due) {
    for (int i = 0; i < 40; i++) {
      Run run = new Run(due, BigInteger.valueOf(i));
      run.is(1, "sign", 0, 1);
      run.is(1, "about", 2, 1);
      run.has(2, Model.signature(BigInteger.valueOf(i), new byte[0])[1]);
    }
  }

  @Sentence(promise = 25, words = "SLOTS t, t + 1 become the SIGNATURE (R, S)")
  static void signatureOverItsSecret(Due due) {
    BigInteger[] want = Model.signature(SECRET, text(3));
    for (int s : new int[] {21, 22, 23, 0, 1}) {
      int t = s < 2 ? 0 : 22;
      Run run = withText(due, 3);
      run.put(s, SECRET);
      run.is(1, "sign", s, t);
      run.has(t, want[0]);
      run.has(t + 1, want[1]);
    }
  }

  @Sentence(promise = 25, words = "Costs 2")
  static void signCostsTwo(Due due) {
    Run run = new Run(due, SECRET);
    run.is(1, "sign", 0, 1);
    run.is(398, "count", 1);
    run.leaveWork(2);
    run.is(1, "sign", 0, 1);
    run.is(0, "count", 1);
    run.is(2, "count", 2);
  }

  @Sentence(promise = 25, words = "UNKNOWN: s, one of both")
  static void signOfNoSlot(Due due) {
    Run run = new Run(due);
    for (long no : Edges.NO_SLOTS) run.is(Edges.UNKNOWN, "sign", no, 0);
    for (long no : new long[] {-2, -1, 23, 24, Edges.LEAST, Edges.MOST}) run.is(Edges.UNKNOWN, "sign", 0, no);
    run.is(1, "sign", 23, 22);
    run.is(398, "count", 1);
  }

  @Sentence(promise = 25, words = "STATE, when fewer are left (then nothing is done)")
  static void signWithoutWork(Due due) {
    for (int left = 0; left < 2; left++) {
      Run run = new Run(due, SECRET, ALL, ALL);
      run.leaveWork(left);
      List<Object> before = run.all();
      run.is(Edges.STATE, "sign", 0, 1);
      run.stays(before);
      run.is(left, "count", 1);
    }
  }

  @Sentence(promise = 25, words = "of several the first as told")
  static void signRefusalsInOrder(Due due) {
    Run run = new Run(due, SECRET);
    run.leaveWork(1);
    run.is(Edges.UNKNOWN, "sign", 24, 0);
    run.is(Edges.UNKNOWN, "sign", 0, 23);
    run.is(Edges.UNKNOWN, "sign", 0, -1);
  }

  @Sentence(promise = 25, words = "they change nothing")
  static void refusedSignsChangeNothing(Due due) {
    Run run = withText(due, 3, SECRET, ALL);
    run.put(23, ALL);
    List<Object> before = run.all();
    run.make("sign", 24, 1);
    run.make("sign", -1, 1);
    run.make("sign", 0, 23);
    run.make("sign", 0, -1);
    run.make("sign", 0, 24);
    run.stays(before);
  }

  // ---- 26, judge

  private static void judgeIs(Due due, long want, BigInteger key, BigInteger bigR, BigInteger s, int length) {
    Run run = withText(due, length, key, bigR, s);
    List<Object> before = run.all();
    run.is(want, "judge", 0, 1);
    run.is(398, "count", 1);
    run.is(1, "count", 3);
    run.is(want, "count", 4);
    // What is judged stays: all but WORK, JUDGED and right.
    due.same("the slots and SIGNATURES", run.all().subList(0, 24), before.subList(0, 24));
    run.is(0, "count", 2);
    run.is(length, "count", 0);
  }

  @Sentence(promise = 26, words = "a SIGNATURE of THE TEXT by the PUBLIC KEY")
  static void textsOfAnyLengthAreJudged(Due due) {
    BigInteger key = Model.publicKey(SECRET);
    for (int length : new int[] {0, 47, 48, 63, 64, 175, 176, 191, 192, 303, 304, 400}) {
      BigInteger[] both = Model.signature(SECRET, text(length));
      Run run = withText(due, length, key, both[0], both[1]);
      run.is(1, "judge", 0, 1);
      run.make("clear");
      run.type(0xa7, length == 0 ? 1 : length - 1);
      run.is(0, "judge", 0, 1);
    }
  }

  @Sentence(promise = 26, words = "It is JUDGED right, if S is below L")
  static void sBelowL(Due due) {
    BigInteger key = Model.publicKey(SECRET);
    BigInteger[] both = Model.signature(SECRET, text(3));
    judgeIs(due, 1, key, both[0], both[1], 3);
    for (int i = 1; i < 15; i++) {
      judgeIs(due, 0, key, both[0], both[1].add(L.multiply(BigInteger.valueOf(i))), 3);
    }
    judgeIs(due, 0, key, both[0], both[1].add(TOP), 3);
    // With A and R neutral it is S = 0 alone, and S = L were right but for its size; L - 1 is right for minus BASE.
    judgeIs(due, 1, NEUTRAL, NEUTRAL, ZERO, 3);
    judgeIs(due, 0, NEUTRAL, NEUTRAL, L, 3);
    judgeIs(due, 0, NEUTRAL, NEUTRAL, L.add(L), 3);
    judgeIs(due, 1, NEUTRAL, BASE.flipBit(255), L.subtract(ONE), 3);
  }

  @Sentence(promise = 26, words = "A and R are POINTS")
  static void aAndRArePoints(Due due) {
    BigInteger minusOne = P.subtract(ONE);
    BigInteger[] none = {
      NO_POINT, P, P.add(ONE), P.add(TOP), ALL, ONE.add(TOP), minusOne.add(TOP), P.add(ONE).add(TOP)
    };
    for (BigInteger no : none) {
      judgeIs(due, 0, no, NEUTRAL, ZERO, 3);
      judgeIs(due, 0, NEUTRAL, no, ZERO, 3);
      judgeIs(due, 0, no, no, ZERO, 3);
    }
    judgeIs(due, 1, minusOne, NEUTRAL, ZERO, 3);
    judgeIs(due, 1, NEUTRAL, minusOne, ZERO, 3);
  }

  @Sentence(promise = 26, words = "8 S times BASE is 8 times R and 8 k times A (k as above) together")
  static void withTheCofactor(Due due) {
    List<BigInteger[]> small = Numbers.smallPoints();
    BigInteger a = BigInteger.valueOf(1234567);
    BigInteger r = BigInteger.valueOf(7654321);
    for (int i = 0; i < 8; i++) {
      BigInteger key = Model.bytesOf(Model.sumOf(Model.product(a, Model.BASE), small.get(i)));
      BigInteger bigR = Model.bytesOf(Model.sumOf(Model.product(r, Model.BASE), small.get((3 * i + 1) % 8)));
      BigInteger s = r.add(Model.shaModL(Model.row(bigR), Model.row(key), text(3)).multiply(a)).mod(L);
      judgeIs(due, 1, key, bigR, s, 3);
      judgeIs(due, 0, key, bigR, s.add(ONE).mod(L), 3);
      // All three of small order, or nothing.
      judgeIs(due, 1, Model.bytesOf(small.get(i)), Model.bytesOf(small.get(7 - i)), ZERO, 3);
      judgeIs(due, 0, Model.bytesOf(small.get(i)), Model.bytesOf(small.get(7 - i)), BigInteger.valueOf(8), 3);
    }
  }

  @Sentence(promise = 26, words = "SLOTS r, r + 1 JUDGED")
  static void slotsThatMeet(Due due) {
    BigInteger key = Model.publicKey(SECRET);
    BigInteger[] both = Model.signature(SECRET, text(3));
    Run run = withText(due, 3);
    run.put(21, key);
    run.put(22, both[0]);
    run.put(23, both[1]);
    run.is(1, "judge", 21, 22);
    run.is(0, "judge", 22, 22);
    run.is(0, "judge", 23, 22);
    run.is(0, "judge", 21, 21);
    // A that is R, and A that is S: y = 0 is a point of order 4.
    run = withText(due, 3, NEUTRAL, ZERO);
    run.is(1, "judge", 0, 0);
    run.is(1, "judge", 1, 0);
  }

  @Sentence(promise = 26, words = "Costs 2 (whatever comes)")
  static void judgeCostsTwo(Due due) {
    BigInteger[][] all = {
      {NEUTRAL, NEUTRAL, ZERO}, {NEUTRAL, NEUTRAL, ONE}, {NEUTRAL, NEUTRAL, L}, {NEUTRAL, NEUTRAL, ALL},
      {NO_POINT, NEUTRAL, ZERO}, {NEUTRAL, NO_POINT, ZERO}, {P, P, P}
    };
    for (BigInteger[] one : all) {
      Run run = new Run(due, one);
      run.make("judge", 0, 1);
      run.is(398, "count", 1);
      run.is(1, "count", 3);
      run.leaveWork(2);
      run.make("judge", 0, 1);
      run.is(0, "count", 1);
      run.is(200, "count", 3);
    }
  }

  @Sentence(promise = 26, words = "UNKNOWN: a, one of both")
  static void judgeOfNoSlot(Due due) {
    Run run = new Run(due, NEUTRAL, NEUTRAL);
    for (long no : Edges.NO_SLOTS) run.is(Edges.UNKNOWN, "judge", no, 0);
    for (long no : new long[] {-2, -1, 23, 24, Edges.LEAST, Edges.MOST}) run.is(Edges.UNKNOWN, "judge", 0, no);
    run.is(0, "count", 3);
    run.is(400, "count", 1);
    run.put(22, NEUTRAL);
    run.is(1, "judge", 22, 22);
    run.is(0, "judge", 23, 21);
  }

  @Sentence(promise = 26, words = "STATE, when fewer are left (then nothing is done)")
  static void judgeWithoutWork(Due due) {
    for (int left = 0; left < 2; left++) {
      Run run = new Run(due, NEUTRAL, NEUTRAL, ZERO);
      run.leaveWork(left);
      List<Object> before = run.all();
      run.is(Edges.STATE, "judge", 0, 1);
      run.is(Edges.STATE, "judge", 0, 5);
      run.stays(before);
      run.is(left, "count", 1);
    }
  }

  @Sentence(promise = 26, words = "of several the first as told")
  static void judgeRefusalsInOrder(Due due) {
    Run run = new Run(due, NEUTRAL);
    run.leaveWork(1);
    run.is(Edges.UNKNOWN, "judge", 24, 0);
    run.is(Edges.UNKNOWN, "judge", 0, 23);
    run.is(Edges.UNKNOWN, "judge", 0, -1);
  }

  @Sentence(promise = 26, words = "they change nothing")
  static void refusedJudgesChangeNothing(Due due) {
    Run run = withText(due, 3, NEUTRAL, NEUTRAL);
    List<Object> before = run.all();
    run.make("judge", 24, 0);
    run.make("judge", -1, 0);
    run.make("judge", 0, 23);
    run.make("judge", 0, -1);
    run.make("judge", 0, 24);
    run.stays(before);
  }

  // ---- 27, count

  @Sentence(promise = 27, words = "0 bytes of THE TEXT")
  static void bytesAreCounted(Due due) {
    Run run = new Run(due);
    run.is(0, "count", 0);
    run.make("type", 1, 1);
    run.is(1, "count", 0);
    run.type(1, 399);
    run.is(400, "count", 0);
    run.make("type", 1, 1);
    run.make("type", 1, 0);
    run.is(400, "count", 0);
    run.make("clear");
    run.is(0, "count", 0);
  }

  @Sentence(promise = 27, words = "1 units of WORK that are left")
  static void workIsCounted(Due due) {
    Run run = new Run(due, BASE, NINE, SECRET);
    run.is(400, "count", 1);
    run.make("times", 1, 0, 5);
    run.is(399, "count", 1);
    run.make("base", 1, 5);
    run.is(398, "count", 1);
    run.make("share", 1, 1, 5);
    run.is(397, "count", 1);
    run.make("key", 2, 5);
    run.is(396, "count", 1);
    run.make("sign", 2, 5);
    run.is(394, "count", 1);
    run.make("judge", 2, 5);
    run.is(392, "count", 1);
    run.leaveWork(1);
    run.make("sign", 2, 5);
    run.make("judge", 2, 5);
    run.is(1, "count", 1);
    run.make("base", 1, 5);
    run.make("base", 1, 5);
    run.is(0, "count", 1);
  }

  @Sentence(promise = 27, words = "each call that multiplies a point (marked so) costs as many units as told")
  static void unmarkedCallsCostNothing(Due due) {
    Run run = new Run(due, BASE, NINE, SECRET);
    run.leaveWork(0);
    for (int way = 0; way < 4; way++) run.is(1, "field", way, 0, 1, 5);
    run.is(1, "power", 0, 1, 5);
    run.is(1, "root", 1, 5);
    run.is(1, "scalar", 0, 1, 2, 5);
    run.is(1, "isPoint", 0);
    run.is(1, "across", 0, 5);
    run.is(1, "sum", 0, 0, 0, 5);
    run.is(4, "small", 0);
    run.is(1, "other", 0, 5);
    run.is(1, "digest", 5);
    run.is(0, "count", 1);
  }

  @Sentence(promise = 27, words = "2 SIGNATURES made")
  static void signaturesAreCounted(Due due) {
    Run run = new Run(due, SECRET);
    run.is(0, "count", 2);
    run.make("sign", 0, 1);
    run.make("sign", 0, 1);
    run.is(2, "count", 2);
    run.make("sign", 0, 23);
    run.make("sign", 24, 1);
    run.make("key", 0, 3);
    run.make("judge", 3, 1);
    run.is(2, "count", 2);
    run.leaveWork(1);
    run.make("sign", 0, 1);
    run.make("clear");
    run.is(2, "count", 2);
  }

  @Sentence(promise = 27, words = "3 JUDGED")
  static void judgedAreCounted(Due due) {
    Run run = new Run(due, NEUTRAL, NEUTRAL, ZERO, NO_POINT, ALL);
    run.is(0, "count", 3);
    run.make("judge", 0, 1);
    run.is(1, "count", 3);
    run.make("judge", 3, 1);
    run.make("judge", 0, 3);
    run.is(3, "count", 3);
    run.make("judge", 24, 1);
    run.make("judge", 0, 23);
    run.make("sign", 5, 6);
    run.is(3, "count", 3);
    run.leaveWork(1);
    run.make("judge", 0, 1);
    run.is(198, "count", 3);
  }

  @Sentence(promise = 27, words = "4 of these right")
  static void rightOnesAreCounted(Due due) {
    Run run = new Run(due, NEUTRAL, NEUTRAL, ZERO, NO_POINT, ALL);
    run.is(0, "count", 4);
    run.make("judge", 0, 1);
    run.make("judge", 0, 1);
    run.is(2, "count", 4);
    run.make("judge", 3, 1);
    run.make("judge", 0, 3);
    run.make("judge", 0, 23);
    run.is(2, "count", 4);
    run.leaveWork(1);
    run.make("judge", 0, 1);
    run.is(2, "count", 4);
  }

  @Sentence(promise = 27, words = "OUTSIDE")
  static void nothingElseIsCounted(Due due) {
    Run run = new Run(due);
    for (long what : new long[] {-1, 5, Edges.LEAST, Edges.MOST}) run.is(Edges.OUTSIDE, "count", what);
  }

  @Sentence(promise = 27, words = "they change nothing")
  static void countsChangeNothing(Due due) {
    Run run = withText(due, 3, NEUTRAL, NEUTRAL);
    run.make("judge", 0, 1);
    List<Object> before = run.all();
    for (int what = -1; what <= 5; what++) run.make("count", what);
    run.stays(before);
  }
}
