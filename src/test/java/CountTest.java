import java.math.BigInteger;

/** Promise 27, count; and WORK: what costs, what does not, and what is refused when it is used up. */
public final class CountTest {
  private static final Due DUE = new Due("CountTest");

  public static void main(String[] args) {
    counted();
    costs();
    lastUnits();
    usedUp();
    freeCalls();
    wholeLife();
    DUE.end();
  }

  private static LadderSigns deskWithPoint() {
    LadderSigns x = new LadderSigns();
    Desk.put(x, 0, Model.bytesOf(Model.BASE));
    Desk.put(x, 1, 2);
    return x;
  }

  private static void work(LadderSigns x, String after, int due) {
    DUE.is("WORK after " + after, x.count(1), due);
  }

  private static void counted() {
    LadderSigns x = new LadderSigns();
    int[] dues = {0, 400, 0, 0, 0};
    for (int what = 0; what < 5; what++) DUE.is("count(" + what + ") at first", x.count(what), dues[what]);
    for (int no : new int[] {-1, 5, Integer.MIN_VALUE, Integer.MAX_VALUE}) {
      DUE.is("count(" + no + ")", x.count(no), -102);
    }
    x.type(0, 5);
    DUE.is("bytes of THE TEXT", x.count(0), 5);
    x.key(0, 1);
    x.sign(0, 2);
    x.sign(0, 4);
    x.judge(1, 2);
    x.judge(1, 4);
    x.judge(0, 2);
    int[] later = {5, 400 - 1 - 4 - 6, 2, 3, 2};
    for (int what = 0; what < 5; what++) DUE.is("count(" + what + ") later", x.count(what), later[what]);
    x.clear();
    DUE.is("bytes after clear", x.count(0), 0);
    DUE.is("SIGNATURES after clear", x.count(2), 2);
  }

  private static void costs() {
    LadderSigns x = deskWithPoint();
    x.times(1, 0, 3);
    work(x, "times", 399);
    x.base(1, 3);
    work(x, "base", 398);
    x.share(1, 0, 3);
    work(x, "share", 397);
    x.key(1, 3);
    work(x, "key", 396);
    x.sign(1, 3);
    work(x, "sign", 394);
    x.judge(0, 3);
    work(x, "judge", 392);
    x.times(0, 1, 3);
    work(x, "times of no POINT", 392);
    x.times(0, 0, 24);
    work(x, "times of slot 24", 392);
    x.sign(0, 23);
    work(x, "sign to slot 24", 392);
    x.judge(1, 1);
    work(x, "judge of no POINT", 390);
    x.share(0, 7, 7);
    work(x, "share of 0", 389);
  }

  private static void lastUnits() {
    LadderSigns x = deskWithPoint();
    Desk.spend(x, 398);
    DUE.is("sign with 2 left", x.sign(0, 4), 1);
    work(x, "that", 0);
    x = deskWithPoint();
    Desk.spend(x, 398);
    DUE.is("judge with 2 left", x.judge(0, 4), 0);
    work(x, "that", 0);
    x = deskWithPoint();
    Desk.spend(x, 399);
    int made = x.count(2);
    int judged = x.count(3);
    BigInteger before = Desk.get(x, 4);
    DUE.is("sign with 1 left", x.sign(0, 4), -103);
    DUE.is("judge with 1 left", x.judge(0, 4), -103);
    DUE.is("SIGNATURES made", x.count(2), made);
    DUE.is("JUDGED", x.count(3), judged);
    DUE.same("slot 4", Desk.get(x, 4), before);
    work(x, "these", 1);
    DUE.is("times with 1 left", x.times(1, 0, 4), 1);
    work(x, "times", 0);
    for (int i = 0; i < 3; i++) {
      x = deskWithPoint();
      Desk.spend(x, 399);
      DUE.is("the last unit", i == 0 ? x.base(0, 5) : i == 1 ? x.share(0, 1, 5) : x.key(0, 5), 1);
      work(x, "the last unit", 0);
    }
  }

  private static void usedUp() {
    LadderSigns x = deskWithPoint();
    Desk.spend(x, 400);
    work(x, "all", 0);
    DUE.is("times", x.times(1, 0, 5), -103);
    DUE.is("times of no POINT", x.times(0, 1, 5), -103);
    DUE.is("times of slot 24", x.times(0, 24, 5), -101);
    DUE.is("base", x.base(0, 5), -103);
    DUE.is("base of slot 24", x.base(24, 5), -101);
    DUE.is("share", x.share(0, 0, 5), -103);
    DUE.is("share of slot 24", x.share(0, 0, 24), -101);
    DUE.is("key", x.key(0, 5), -103);
    DUE.is("key of slot 24", x.key(24, 5), -101);
    DUE.is("sign", x.sign(0, 5), -103);
    DUE.is("sign to slot 24", x.sign(0, 23), -101);
    DUE.is("judge", x.judge(0, 5), -103);
    DUE.is("judge of slot 24", x.judge(0, 23), -101);
    DUE.same("slot 5", Desk.get(x, 5), BigInteger.ZERO);
    DUE.same("slot 6", Desk.get(x, 6), BigInteger.ZERO);
    work(x, "these", 0);
  }

  private static void freeCalls() {
    LadderSigns x = deskWithPoint();
    Desk.spend(x, 400);
    DUE.is("field", x.field(3, 0, 1, 3), 1);
    DUE.is("power", x.power(0, 0, 3), 1);
    DUE.is("root", x.root(8, 3), 1);
    DUE.is("scalar", x.scalar(0, 0, 0, 3), 1);
    DUE.is("isPoint", x.isPoint(0), 1);
    DUE.is("across", x.across(0, 3), 1);
    DUE.is("sum", x.sum(0, 0, 0, 3), 1);
    DUE.is("small", x.small(0), 4);
    DUE.is("other", x.other(0, 3), 1);
    DUE.is("type", x.type(1, 1), 1);
    DUE.is("digest", x.digest(3), 1);
    DUE.is("flip", x.flip(7, 0, 0), 1);
    work(x, "calls that cost nothing", 0);
  }

  /** 400 units in units of one: right till the end, and then refused. */
  private static void wholeLife() {
    LadderSigns x = deskWithPoint();
    BigInteger[] due = Model.BASE;
    for (int i = 0; i < 400; i++) {
      DUE.is("times " + i, x.times(1, 0, 0), 1);
      due = Model.sumOf(due, due);
    }
    DUE.is("times 400", x.times(1, 0, 0), -103);
    DUE.same("2^400 times BASE", Desk.get(x, 0), Model.bytesOf(due));
    work(x, "all of them", 0);
  }
}
