import java.math.BigInteger;
import java.util.ArrayList;
import java.util.List;
import java.util.Random;

/** Promises 9 to 14: field, power, root, about, compare, scalar. */
public final class FieldTest {
  private static final BigInteger P = Model.P;
  private static final BigInteger L = Model.L;
  private static final Due DUE = new Due("FieldTest");
  private static final List<BigInteger> SOME = new ArrayList<>(Numbers.ends());

  public static void main(String[] args) {
    Random random = new Random(9);
    for (int i = 0; i < 20; i++) SOME.add(Numbers.any(random));
    fields();
    sameSlots();
    dividing();
    powers();
    roots();
    abouts();
    compares();
    scalars();
    DUE.end();
  }

  private static BigInteger due(int way, BigInteger a, BigInteger b) {
    BigInteger x = Model.fieldNumber(a);
    BigInteger y = Model.fieldNumber(b);
    if (way == 0) return x.add(y).mod(P);
    if (way == 1) return x.subtract(y).mod(P);
    if (way == 2) return x.multiply(y).mod(P);
    return x.multiply(y.modInverse(P)).mod(P);
  }

  private static void fields() {
    for (BigInteger a : SOME) {
      for (BigInteger b : SOME) {
        LadderSigns x = Desk.with(a, b);
        for (int way = 0; way < 4; way++) {
          String call = "field " + way + " of " + a + " and " + b;
          if (way == 3 && Model.fieldNumber(b).signum() == 0) {
            DUE.is(call, x.field(way, 0, 1, 2), -103);
          } else {
            DUE.is(call, x.field(way, 0, 1, 2), 1);
            DUE.same(call, Desk.get(x, 2), due(way, a, b));
          }
        }
      }
    }
  }

  private static void sameSlots() {
    BigInteger a = Numbers.ALL.subtract(BigInteger.valueOf(5));
    for (int way = 0; way < 4; way++) {
      LadderSigns x = new LadderSigns();
      Desk.put(x, 0, a);
      DUE.is("field(" + way + ", 0, 0, 0)", x.field(way, 0, 0, 0), 1);
      DUE.same("field(" + way + ", 0, 0, 0)", Desk.get(x, 0), due(way, a, a));
      Desk.put(x, 0, a);
      Desk.put(x, 1, 3);
      x.field(way, 0, 1, 1);
      DUE.same("field(" + way + ", 0, 1, 1)", Desk.get(x, 1), due(way, a, BigInteger.valueOf(3)));
      DUE.same("what a field call reads stays", Desk.get(x, 0), a);
    }
  }

  private static void dividing() {
    LadderSigns x = new LadderSigns();
    Desk.put(x, 0, 6);
    Desk.put(x, 3, 77);
    BigInteger[] nothings = {BigInteger.ZERO, P, Desk.two(255), P.setBit(255)};
    for (BigInteger nothing : nothings) {
      Desk.put(x, 1, nothing);
      DUE.is("6 / 0", x.field(3, 0, 1, 3), -103);
      DUE.is("0 / 0", x.field(3, 1, 1, 3), -103);
      DUE.is("way 4 of 0", x.field(4, 0, 1, 3), -102);
      DUE.is("t of 24 and 0", x.field(3, 0, 1, 24), -101);
      DUE.is("0 / 6", x.field(3, 1, 0, 4), 1);
      DUE.same("0 / 6", Desk.get(x, 4), BigInteger.ZERO);
    }
    DUE.is("the refused call's t", x.word(3, 0), 77);
    DUE.is("way -1", x.field(-1, 0, 1, 3), -102);
    DUE.is("way -1 of slot -1", x.field(-1, -1, 1, 3), -101);
    DUE.is("slot b of 24", x.field(0, 0, 24, 3), -101);
    DUE.is("slot t of -1", x.field(0, 0, 1, -1), -101);
  }

  private static void powers() {
    for (BigInteger a : SOME) {
      for (BigInteger b : SOME) {
        LadderSigns x = Desk.with(a, b);
        DUE.is("power", x.power(0, 1, 2), 1);
        DUE.same("power " + a + " to " + b, Desk.get(x, 2), Model.fieldNumber(a).modPow(b, P));
      }
    }
    LadderSigns x = new LadderSigns();
    DUE.is("power(0, 0, 0)", x.power(0, 0, 0), 1);
    DUE.same("0 to 0", Desk.get(x, 0), BigInteger.ONE);
    Desk.put(x, 1, P);
    x.power(1, 2, 3);
    DUE.same("p to 0", Desk.get(x, 3), BigInteger.ONE);
    Desk.put(x, 4, P.subtract(BigInteger.ONE));
    x.power(1, 4, 3);
    DUE.same("0 to p - 1", Desk.get(x, 3), BigInteger.ZERO);
    Desk.put(x, 5, 3);
    x.power(5, 5, 5);
    DUE.same("3 to 3 in one slot", Desk.get(x, 5), BigInteger.valueOf(27));
    Desk.put(x, 5, Desk.two(255).add(BigInteger.TWO));
    Desk.put(x, 6, Desk.two(255));
    x.power(5, 6, 7);
    DUE.same("all bits of the power", Desk.get(x, 7), BigInteger.TWO.modPow(Desk.two(255), P));
    DUE.is("power(24, 0, 0)", x.power(24, 0, 0), -101);
    DUE.is("power(0, 24, 0)", x.power(0, 24, 0), -101);
    DUE.is("power(0, 0, -1)", x.power(0, 0, -1), -101);
  }

  private static void roots() {
    int without = 0;
    for (BigInteger a : SOME) {
      LadderSigns x = Desk.with(a, BigInteger.valueOf(12345));
      BigInteger root = Model.rootOf(Model.fieldNumber(a));
      DUE.is("root of " + a, x.root(0, 1), root == null ? 0 : 1);
      DUE.same("root of " + a, Desk.get(x, 1), root == null ? BigInteger.valueOf(12345) : root);
      if (root == null) without++;
      BigInteger square = Model.fieldNumber(a).pow(2).mod(P);
      Desk.put(x, 2, square);
      DUE.is("root of a square", x.root(2, 2), 1);
      BigInteger got = Desk.get(x, 2);
      DUE.is("a root is even", got.testBit(0) ? 1 : 0, 0);
      DUE.is("a root is below p", got.compareTo(P), -1);
      DUE.same("a root's square", got.multiply(got).mod(P), square);
    }
    DUE.is("some numbers have no root", without > 5 ? 1 : 0, 1);
    LadderSigns x = new LadderSigns();
    Desk.put(x, 3, P);
    DUE.is("root of p", x.root(3, 3), 1);
    DUE.same("root of p", Desk.get(x, 3), BigInteger.ZERO);
    DUE.is("root(24, 0)", x.root(24, 0), -101);
    DUE.is("root(0, 24)", x.root(0, 24), -101);
    Desk.put(x, 4, 2);
    DUE.is("root of 2, which has none, into slot 24", x.root(4, 24), -101);
  }

  private static void abouts() {
    for (BigInteger a : SOME) {
      LadderSigns x = new LadderSigns();
      Desk.put(x, 0, a);
      DUE.is("below p: " + a, x.about(0, 0), a.compareTo(P) < 0 ? 1 : 0);
      DUE.is("below L: " + a, x.about(0, 1), a.compareTo(L) < 0 ? 1 : 0);
      DUE.is("0 modulo p: " + a, x.about(0, 2), Model.fieldNumber(a).signum() == 0 ? 1 : 0);
      DUE.is("lowest bit: " + a, x.about(0, 3), Model.fieldNumber(a).testBit(0) ? 1 : 0);
      DUE.is("bits: " + a, x.about(0, 4), a.bitLength());
      DUE.same("about changes nothing", Desk.get(x, 0), a);
    }
    LadderSigns x = new LadderSigns();
    for (int i = 0; i < 100; i++) {
      Desk.put(x, 0, Desk.two(i * 255 / 99));
      DUE.is("bits of 2^" + i * 255 / 99, x.about(0, 4), i * 255 / 99 + 1);
    }
    DUE.is("about(0, 5)", x.about(0, 5), -102);
    DUE.is("about(0, -1)", x.about(0, -1), -102);
    DUE.is("about(24, 5)", x.about(24, 5), -101);
    DUE.is("about(-1, 0)", x.about(-1, 0), -101);
  }

  private static void compares() {
    for (BigInteger a : SOME) {
      for (BigInteger b : SOME) {
        LadderSigns x = Desk.with(a, b);
        DUE.is("compare " + a + " with " + b, x.compare(0, 1), a.compareTo(b));
      }
    }
    LadderSigns x = new LadderSigns();
    DUE.is("compare(24, 0)", x.compare(24, 0), -101);
    DUE.is("compare(0, -1)", x.compare(0, -1), -101);
    DUE.is("compare(3, 3)", x.compare(3, 3), 0);
  }

  private static void scalars() {
    for (int i = 0; i < SOME.size(); i++) {
      for (int j = 0; j < SOME.size(); j++) {
        BigInteger a = SOME.get(i);
        BigInteger b = SOME.get(j);
        BigInteger c = SOME.get((7 * i + 11 * j) % SOME.size());
        LadderSigns x = Desk.with(a, b, c);
        DUE.is("scalar", x.scalar(0, 1, 2, 3), 1);
        DUE.same("scalar " + a + " " + b + " " + c, Desk.get(x, 3), a.multiply(b).add(c).mod(L));
      }
    }
    for (int t = 0; t < 3; t++) {
      LadderSigns x = new LadderSigns();
      Desk.put(x, 0, 5);
      Desk.put(x, 1, 7);
      Desk.put(x, 2, 11);
      x.scalar(0, 1, 2, t);
      DUE.same("scalar into slot " + t, Desk.get(x, t), BigInteger.valueOf(46));
      x.scalar(t, t, t, t);
      DUE.same("scalar of one slot", Desk.get(x, t), BigInteger.valueOf(46 * 46 + 46));
    }
    LadderSigns x = new LadderSigns();
    DUE.is("scalar(24, 0, 0, 0)", x.scalar(24, 0, 0, 0), -101);
    DUE.is("scalar(0, 24, 0, 0)", x.scalar(0, 24, 0, 0), -101);
    DUE.is("scalar(0, 0, 24, 0)", x.scalar(0, 0, 24, 0), -101);
    DUE.is("scalar(0, 0, 0, 24)", x.scalar(0, 0, 0, 24), -101);
  }
}
