import java.math.BigInteger;

/** Promises 1 to 8: a new object, set, word, copy, type, clear, at, flip; and the constants. */
public final class BytesTest {
  private static final long PATTERN = 0x8877665544332211L;
  private static final Due DUE = new Due("BytesTest");

  public static void main(String[] args) {
    constants();
    newObject();
    setAndWord();
    copies();
    types();
    clearsAndBytes();
    flips();
    twoDesks();
    DUE.end();
  }

  private static void constants() {
    DUE.is("NONE", LadderSigns.NONE, -1);
    DUE.is("UNKNOWN", LadderSigns.UNKNOWN, -101);
    DUE.is("OUTSIDE", LadderSigns.OUTSIDE, -102);
    DUE.is("STATE", LadderSigns.STATE, -103);
    DUE.is("FULL", LadderSigns.FULL, -104);
  }

  private static void newObject() {
    LadderSigns x = new LadderSigns();
    for (int s = 0; s < Desk.SLOTS; s++) DUE.same("slot " + s + " of a new desk", Desk.get(x, s), BigInteger.ZERO);
    DUE.is("at(0)", x.at(0), -1);
    DUE.is("count(0)", x.count(0), 0);
    DUE.is("count(1)", x.count(1), 400);
    DUE.is("count(2)", x.count(2), 0);
    DUE.is("count(3)", x.count(3), 0);
    DUE.is("count(4)", x.count(4), 0);
    DUE.is("clear()", x.clear(), 0);
  }

  private static void setAndWord() {
    LadderSigns x = new LadderSigns();
    for (int s = 0; s < Desk.SLOTS; s++) {
      for (int i = 0; i < 4; i++) DUE.is("set", x.set(s, i, PATTERN * (4 * s + i + 1)), 1);
    }
    for (int s = 0; s < Desk.SLOTS; s++) {
      for (int i = 0; i < 4; i++) DUE.is("word(" + s + ", " + i + ")", x.word(s, i), PATTERN * (4 * s + i + 1));
    }
    DUE.is("set(24, 0, 1)", x.set(24, 0, 1), -101);
    DUE.is("set(-1, 0, 1)", x.set(-1, 0, 1), -101);
    DUE.is("set(24, 4, 1)", x.set(24, 4, 1), -101);
    DUE.is("set(0, 4, 1)", x.set(0, 4, 1), -102);
    DUE.is("set(0, -1, 1)", x.set(0, -1, 1), -102);
    DUE.is("word(24, 0)", x.word(24, 0), 0);
    DUE.is("word(-1, 0)", x.word(-1, 0), 0);
    DUE.is("word(0, 4)", x.word(0, 4), 0);
    DUE.is("word(0, -1)", x.word(0, -1), 0);
    DUE.is("word(0, 0)", x.word(0, 0), PATTERN);
  }

  private static void copies() {
    LadderSigns x = new LadderSigns();
    Desk.put(x, 0, Numbers.ALL);
    DUE.is("copy(0, 23)", x.copy(0, 23), 1);
    DUE.same("slot 23", Desk.get(x, 23), Numbers.ALL);
    DUE.same("slot 0", Desk.get(x, 0), Numbers.ALL);
    x.set(0, 2, 7);
    DUE.same("slot 23 is its own", Desk.get(x, 23), Numbers.ALL);
    DUE.is("copy(0, 0)", x.copy(0, 0), 1);
    DUE.is("word(0, 2)", x.word(0, 2), 7);
    DUE.is("copy(24, 0)", x.copy(24, 0), -101);
    DUE.is("copy(0, 24)", x.copy(0, 24), -101);
    DUE.is("copy(-1, 0)", x.copy(-1, 0), -101);
    DUE.is("copy(0, -1)", x.copy(0, -1), -101);
    DUE.is("word(0, 0)", x.word(0, 0), -1);
  }

  private static void types() {
    LadderSigns x = new LadderSigns();
    int length = 0;
    for (int n = 1; n <= 8; n++) {
      length += n;
      DUE.is("type of " + n, x.type(PATTERN, n), length);
    }
    for (int n = 1, place = 0; n <= 8; n++) {
      for (int i = 1; i <= n; i++) DUE.is("at(" + place + ")", x.at(place++), 0x11 * i);
    }
    DUE.is("type(1, 0)", x.type(1, 0), -102);
    DUE.is("type(1, 9)", x.type(1, 9), -102);
    DUE.is("type(1, -1)", x.type(1, -1), -102);
    DUE.is("type(1, least)", x.type(1, Integer.MIN_VALUE), -102);
    DUE.is("type(1, most)", x.type(1, Integer.MAX_VALUE), -102);
    while (length < 392) DUE.is("type(-1, 4)", x.type(-1, 4), length += 4);
    DUE.is("type(5, 1)", x.type(5, 1), 393);
    DUE.is("type(5, 8)", x.type(5, 8), -104);
    DUE.is("type(5, 9)", x.type(5, 9), -102);
    DUE.is("count(0)", x.count(0), 393);
    DUE.is("type(PATTERN, 7)", x.type(PATTERN, 7), 400);
    DUE.is("at(399)", x.at(399), 0x77);
    DUE.is("at(400)", x.at(400), -1);
    DUE.is("type(5, 1)", x.type(5, 1), -104);
    DUE.is("type(5, 0)", x.type(5, 0), -102);
    DUE.is("at(399)", x.at(399), 0x77);
  }

  private static void clearsAndBytes() {
    LadderSigns x = new LadderSigns();
    x.type(0xff80007fL, 4);
    int[] bytes = {0x7f, 0, 0x80, 0xff};
    for (int i = 0; i < 4; i++) DUE.is("at(" + i + ")", x.at(i), bytes[i]);
    DUE.is("at(4)", x.at(4), -1);
    DUE.is("at(-1)", x.at(-1), -1);
    DUE.is("at(least)", x.at(Integer.MIN_VALUE), -1);
    DUE.is("at(most)", x.at(Integer.MAX_VALUE), -1);
    DUE.is("clear()", x.clear(), 4);
    DUE.is("at(0)", x.at(0), -1);
    DUE.is("clear()", x.clear(), 0);
    DUE.is("type(1, 1)", x.type(1, 1), 1);
    DUE.is("at(0)", x.at(0), 1);
    DUE.is("at(1)", x.at(1), -1);
  }

  private static void flips() {
    LadderSigns x = new LadderSigns();
    for (int k = 0; k < 32; k++) {
      int i = (k * 5 + 3) % 8;
      DUE.is("flip(6, " + k + ", " + i + ")", x.flip(6, k, i), 1);
      DUE.same("slot 6", Desk.get(x, 6), Desk.two(8 * k + i));
      DUE.is("flip(6, " + k + ", " + i + ") again", x.flip(6, k, i), 0);
    }
    for (int i = 0; i < 8; i++) DUE.is("flip(7, 31, " + i + ")", x.flip(7, 31, i), 1);
    DUE.is("word(7, 3)", x.word(7, 3), 0xffL << 56);
    DUE.is("flip(24, 0, 0)", x.flip(24, 0, 0), -101);
    DUE.is("flip(-1, 32, 8)", x.flip(-1, 32, 8), -101);
    DUE.is("flip(7, 32, 0)", x.flip(7, 32, 0), -102);
    DUE.is("flip(7, -1, 0)", x.flip(7, -1, 0), -102);
    DUE.is("flip(7, 0, 8)", x.flip(7, 0, 8), -102);
    DUE.is("flip(7, 0, -1)", x.flip(7, 0, -1), -102);
    DUE.is("word(7, 3)", x.word(7, 3), 0xffL << 56);
    DUE.is("word(7, 0)", x.word(7, 0), 0);
  }

  private static void twoDesks() {
    LadderSigns x = new LadderSigns();
    LadderSigns y = new LadderSigns();
    x.set(0, 0, 1);
    x.type(1, 1);
    x.base(0, 1);
    DUE.is("word of another desk", y.word(0, 0), 0);
    DUE.is("THE TEXT of another desk", y.count(0), 0);
    DUE.is("WORK of another desk", y.count(1), 400);
  }
}
