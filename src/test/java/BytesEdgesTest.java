import java.io.IOException;
import java.math.BigInteger;
import java.util.List;

/** Promises 1 to 8, the sentences that name a boundary case: each has a test of its own. */
public final class BytesEdgesTest {
  private static final long PATTERN = 0x8877665544332211L;
  private static final BigInteger ALL = Numbers.ALL;

  public static void main(String[] args) throws IOException {
    Edges.run(BytesEdgesTest.class, 1, 8);
  }

  // ---- 1, a new object

  @Sentence(promise = 1, words = "SLOTS of 0")
  static void eachSlotIsNothing(Due due) {
    Run run = new Run(due);
    for (int s = 0; s < 24; s++) run.has(s, 0);
  }

  @Sentence(promise = 1, words = "no TEXT")
  static void noByteIsThere(Due due) {
    Run run = new Run(due);
    run.is(0, "count", 0);
    run.is(Edges.NONE, "at", 0);
    run.is(0, "clear");
    run.is(1, "type", 9, 1);
  }

  @Sentence(promise = 1, words = "400 in the desk's life")
  static void eachDeskHasItsOwn(Due due) {
    Run used = new Run(due, ALL);
    used.type(7, 3);
    used.leaveWork(0);
    Run run = new Run(due);
    run.is(400, "count", 1);
    run.is(0, "count", 0);
    run.has(0, 0);
  }

  // ---- 2, set

  @Sentence(promise = 2, words = "SLOTS 0 .. 23 have 32 bytes each")
  static void firstAndLastSlotAreSet(Due due) {
    Run run = new Run(due);
    for (int s = 0; s < 24; s++) run.is(1, "set", s, 3, s + 1);
    for (int s = 0; s < 24; s++) run.has(s, BigInteger.valueOf(s + 1).shiftLeft(192));
  }

  @Sentence(promise = 2, words = "Bytes 8 i to 8 i + 7 of a SLOT become those of a long, the lowest first")
  static void eachLongHasItsPlace(Due due) {
    for (int i = 0; i < 4; i++) {
      Run run = new Run(due, ALL);
      run.is(1, "set", 0, i, 0);
      run.has(0, ALL.subtract(Desk.two(64 * i + 64)).add(Desk.two(64 * i)));
      run.is(1, "set", 0, i, PATTERN);
      run.put(1, BigInteger.ZERO);
      run.is(1, "set", 1, i, 1);
      run.is(0, "flip", 1, 8 * i, 0);
      run.is(1, "set", 1, i, Long.MIN_VALUE);
      run.is(0, "flip", 1, 8 * i + 7, 7);
      run.has(1, 0);
    }
  }

  @Sentence(promise = 2, words = "UNKNOWN")
  static void setOfNoSlot(Due due) {
    Run run = new Run(due);
    for (long no : Edges.NO_SLOTS) run.is(Edges.UNKNOWN, "set", no, 0, 1);
  }

  @Sentence(promise = 2, words = "OUTSIDE: i is not 0 to 3")
  static void setOfNoPlace(Due due) {
    Run run = new Run(due);
    for (long i : new long[] {-1, 4, Edges.LEAST, Edges.MOST}) run.is(Edges.OUTSIDE, "set", 23, i, 1);
    run.is(1, "set", 23, 0, 1);
    run.is(1, "set", 23, 3, 1);
  }

  @Sentence(promise = 2, words = "of several the first as told")
  static void setOfNoSlotAndNoPlace(Due due) {
    new Run(due).is(Edges.UNKNOWN, "set", 24, 4, 1);
    new Run(due).is(Edges.UNKNOWN, "set", -1, -1, 1);
  }

  @Sentence(promise = 2, words = "they change nothing")
  static void refusedSetsChangeNothing(Due due) {
    Run run = new Run(due);
    List<Object> before = run.all();
    for (long no : Edges.NO_SLOTS) run.make("set", no, 0, -1);
    for (long i : new long[] {-1, 4, 5, 8, 32}) run.make("set", 0, i, -1);
    run.make("set", 23, 4, -1);
    run.stays(before);
  }

  // ---- 3, word

  @Sentence(promise = 3, words = "That long of a SLOT")
  static void eachLongIsTold(Due due) {
    Run run = new Run(due);
    long[] longs = {Long.MIN_VALUE, -1, Long.MAX_VALUE, 1};
    for (int i = 0; i < 4; i++) run.make("set", 0, i, longs[i]);
    for (int i = 0; i < 4; i++) run.make("set", 23, i, longs[3 - i]);
    for (int i = 0; i < 4; i++) run.is(longs[i], "word", 0, i);
    for (int i = 0; i < 4; i++) run.is(longs[3 - i], "word", 23, i);
  }

  @Sentence(promise = 3, words = "0 also: UNKNOWN")
  static void wordOfNoSlot(Due due) {
    Run run = new Run(due);
    for (int s = 0; s < 24; s++) run.put(s, ALL);
    for (long no : Edges.NO_SLOTS) run.is(0, "word", no, 0);
    run.is(0, "word", 24, 4);
  }

  @Sentence(promise = 3, words = "0 also: UNKNOWN, OUTSIDE")
  static void wordOfNoPlace(Due due) {
    Run run = new Run(due);
    for (int s = 0; s < 24; s++) run.put(s, ALL);
    for (long i : new long[] {-1, 4, Edges.LEAST, Edges.MOST}) run.is(0, "word", 11, i);
    run.is(-1, "word", 11, 0);
    run.is(-1, "word", 11, 3);
  }

  @Sentence(promise = 3, words = "they change nothing")
  static void wordsChangeNothing(Due due) {
    Run run = new Run(due, ALL);
    List<Object> before = run.all();
    run.make("word", 0, 3);
    run.make("word", 0, 4);
    run.make("word", 24, 0);
    run.stays(before);
  }

  // ---- 4, copy

  @Sentence(promise = 4, words = "SLOTS 0 .. 23 have 32 bytes each")
  static void allBytesComeOver(Due due) {
    Run run = new Run(due, ALL);
    run.is(1, "copy", 0, 23);
    run.has(23, ALL);
    run.has(0, ALL);
    run.is(1, "copy", 22, 0);
    run.has(0, 0);
    run.has(23, ALL);
  }

  @Sentence(promise = 4, words = "The bytes of SLOT s come to SLOT t")
  static void ontoItself(Due due) {
    Run run = new Run(due, ALL, Model.P);
    List<Object> before = run.all();
    run.is(1, "copy", 0, 0);
    run.is(1, "copy", 1, 1);
    run.is(1, "copy", 23, 23);
    run.stays(before);
  }

  @Sentence(promise = 4, words = "UNKNOWN")
  static void copyOfNoSlot(Due due) {
    Run run = new Run(due);
    for (long no : Edges.NO_SLOTS) {
      run.is(Edges.UNKNOWN, "copy", no, 0);
      run.is(Edges.UNKNOWN, "copy", 0, no);
      run.is(Edges.UNKNOWN, "copy", no, no);
    }
  }

  @Sentence(promise = 4, words = "they change nothing")
  static void refusedCopiesChangeNothing(Due due) {
    Run run = new Run(due, ALL);
    run.put(23, BigInteger.TEN);
    List<Object> before = run.all();
    for (long no : Edges.NO_SLOTS) {
      run.make("copy", no, 0);
      run.make("copy", 0, no);
      run.make("copy", no, 23);
    }
    run.stays(before);
  }

  // ---- 5, type

  @Sentence(promise = 5, words = "The n lowest bytes (1 to 8) of a long")
  static void fromOneByteToEight(Due due) {
    int length = 0;
    Run run = new Run(due);
    for (int n = 1; n <= 8; n++) run.is(length += n, "type", PATTERN, n);
    int place = 0;
    for (int n = 1; n <= 8; n++) {
      for (int i = 1; i <= n; i++) run.is(0x11 * i, "at", place++);
    }
    run.is(Edges.NONE, "at", place);
  }

  @Sentence(promise = 5, words = "come behind THE TEXT, the lowest first")
  static void behindWhatIsThere(Due due) {
    Run run = new Run(due);
    run.is(1, "type", 0x0a, 1);
    run.is(3, "type", 0x0c0b, 2);
    for (int i = 0; i < 3; i++) run.is(0x0a + i, "at", i);
  }

  @Sentence(promise = 5, words = "OUTSIDE")
  static void tooFewOrTooManyBytes(Due due) {
    Run run = new Run(due);
    for (long n : new long[] {0, 9, -1, -8, Edges.LEAST, Edges.MOST}) run.is(Edges.OUTSIDE, "type", PATTERN, n);
  }

  @Sentence(promise = 5, words = "THE TEXT has 0 to 400 bytes")
  static void justFull(Due due) {
    for (int n = 1; n <= 8; n++) {
      Run run = new Run(due);
      run.type(7, 400 - n);
      run.is(400, "type", PATTERN, n);
      run.is(0x11 * n, "at", 399);
    }
  }

  @Sentence(promise = 5, words = "FULL: there would be more than 400")
  static void moreThanFull(Due due) {
    for (int n = 1; n <= 8; n++) {
      Run run = new Run(due);
      run.type(7, 401 - n);
      run.is(Edges.FULL, "type", PATTERN, n);
      run.type(7, n - 1);
      run.is(400, "count", 0);
      for (int m = 1; m <= 8; m++) run.is(Edges.FULL, "type", PATTERN, m);
    }
  }

  @Sentence(promise = 5, words = "of several the first as told")
  static void outsideComesBeforeFull(Due due) {
    Run run = new Run(due);
    run.type(7, 400);
    for (long n : new long[] {0, 9, -1, Edges.LEAST, Edges.MOST}) run.is(Edges.OUTSIDE, "type", PATTERN, n);
  }

  @Sentence(promise = 5, words = "they change nothing")
  static void refusedTypesChangeNothing(Due due) {
    Run run = new Run(due);
    run.type(7, 5);
    List<Object> before = run.all();
    for (long n : new long[] {0, 9, -1, Edges.LEAST, Edges.MOST}) run.make("type", PATTERN, n);
    run.stays(before);
    run = new Run(due);
    run.type(7, 393);
    run.make("type", PATTERN, 8);
    run.is(393, "count", 0);
    run.is(7, "at", 392);
    run.is(Edges.NONE, "at", 393);
  }

  // ---- 6, clear

  @Sentence(promise = 6, words = "THE TEXT has 0 to 400 bytes")
  static void noneAndAllAreCleared(Due due) {
    Run run = new Run(due);
    run.is(0, "clear");
    run.type(7, 400);
    run.is(400, "clear");
    run.is(0, "clear");
  }

  @Sentence(promise = 6, words = "THE TEXT is emptied: how many bytes it had")
  static void nothingOfItIsLeft(Due due) {
    Run run = new Run(due);
    run.type(7, 400);
    run.make("clear");
    run.is(0, "count", 0);
    run.is(Edges.NONE, "at", 0);
    run.is(1, "type", 9, 1);
    run.is(9, "at", 0);
    run.is(Edges.NONE, "at", 1);
    run.type(7, 399);
    run.is(Edges.FULL, "type", 9, 1);
  }

  @Sentence(promise = 6, words = "400 in the desk's life")
  static void onlyTheTextIsCleared(Due due) {
    Run run = new Run(due, ALL);
    run.make("base", 0, 1);
    run.make("sign", 0, 2);
    run.make("judge", 1, 2);
    List<Object> before = run.all();
    run.type(7, 5);
    run.is(5, "clear");
    run.stays(before);
  }

  // ---- 7, at

  @Sentence(promise = 7, words = "(0 to 255)")
  static void bytesHaveNoSign(Due due) {
    Run run = new Run(due);
    run.make("type", 0xff80017f00L, 5);
    int[] bytes = {0, 127, 1, 128, 255};
    for (int i = 0; i < 5; i++) run.is(bytes[i], "at", i);
  }

  @Sentence(promise = 7, words = "Byte i of THE TEXT")
  static void firstAndLastByte(Due due) {
    Run run = new Run(due);
    run.make("type", 3, 1);
    run.type(7, 398);
    run.make("type", 5, 1);
    run.is(3, "at", 0);
    run.is(5, "at", 399);
  }

  @Sentence(promise = 7, words = "NONE: there is none")
  static void noSuchByte(Due due) {
    Run run = new Run(due);
    for (long i : new long[] {0, 1, -1, Edges.LEAST, Edges.MOST}) run.is(Edges.NONE, "at", i);
    run.type(7, 5);
    for (long i : new long[] {5, 6, 399, 400, -1, Edges.LEAST, Edges.MOST}) run.is(Edges.NONE, "at", i);
    run.type(7, 395);
    for (long i : new long[] {400, 401, -1, Edges.LEAST, Edges.MOST}) run.is(Edges.NONE, "at", i);
  }

  @Sentence(promise = 7, words = "they change nothing")
  static void looksChangeNothing(Due due) {
    Run run = new Run(due);
    run.type(7, 5);
    List<Object> before = run.all();
    for (long i : new long[] {0, 4, 5, 400, -1, Edges.MOST}) run.make("at", i);
    run.stays(before);
  }

  // ---- 8, flip

  @Sentence(promise = 8, words = "Bit i (0 to 7) of byte k of a SLOT is turned round")
  static void cornersOfASlot(Due due) {
    for (int k : new int[] {0, 7, 8, 31}) {
      for (int i : new int[] {0, 7}) {
        Run run = new Run(due, BigInteger.ZERO, ALL);
        run.make("flip", 0, k, i);
        run.has(0, Desk.two(8 * k + i));
        run.make("flip", 1, k, i);
        run.has(1, ALL.clearBit(8 * k + i));
      }
    }
  }

  @Sentence(promise = 8, words = "what it is then")
  static void whatABitIsThen(Due due) {
    Run run = new Run(due, BigInteger.ZERO, ALL);
    for (int k : new int[] {0, 31}) {
      for (int i : new int[] {0, 7}) {
        run.is(1, "flip", 0, k, i);
        run.is(0, "flip", 0, k, i);
        run.is(0, "flip", 1, k, i);
        run.is(1, "flip", 1, k, i);
      }
    }
  }

  @Sentence(promise = 8, words = "UNKNOWN")
  static void flipOfNoSlot(Due due) {
    Run run = new Run(due);
    for (long no : Edges.NO_SLOTS) run.is(Edges.UNKNOWN, "flip", no, 0, 0);
  }

  @Sentence(promise = 8, words = "OUTSIDE: k is not 0 to 31")
  static void noSuchByteOfASlot(Due due) {
    Run run = new Run(due);
    for (long k : new long[] {-1, 32, Edges.LEAST, Edges.MOST}) run.is(Edges.OUTSIDE, "flip", 0, k, 0);
    run.is(Edges.OUTSIDE, "flip", 0, -1, 8);
  }

  @Sentence(promise = 8, words = "OUTSIDE: k is not 0 to 31, i")
  static void noSuchBit(Due due) {
    Run run = new Run(due);
    for (long i : new long[] {-1, 8, Edges.LEAST, Edges.MOST}) run.is(Edges.OUTSIDE, "flip", 0, 0, i);
    run.is(Edges.OUTSIDE, "flip", 0, 1, -1);
    run.is(Edges.OUTSIDE, "flip", 0, 31, 8);
  }

  @Sentence(promise = 8, words = "of several the first as told")
  static void unknownComesBeforeOutside(Due due) {
    new Run(due).is(Edges.UNKNOWN, "flip", 24, 32, 0);
    new Run(due).is(Edges.UNKNOWN, "flip", -1, 0, 8);
  }

  @Sentence(promise = 8, words = "they change nothing")
  static void refusedFlipsChangeNothing(Due due) {
    Run run = new Run(due);
    List<Object> before = run.all();
    for (long no : Edges.NO_SLOTS) run.make("flip", no, 0, 0);
    run.make("flip", 0, -1, 8);
    run.make("flip", 0, 1, -1);
    run.make("flip", 0, 0, 8);
    run.make("flip", 0, 32, 0);
    run.make("flip", 22, 32, 0);
    run.stays(before);
  }
}
