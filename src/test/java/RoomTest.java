import com.sun.management.ThreadMXBean;
import java.lang.management.ManagementFactory;
import java.math.BigInteger;

/** A desk makes its rows when it is made, and no call makes any more: all calls of a run live in one room. */
public final class RoomTest {
  private static final ThreadMXBean ROOM = (ThreadMXBean) ManagementFactory.getThreadMXBean();
  private static final long MOST_BYTES_OF_A_DESK = 40_000;
  private static final Due DUE = new Due("RoomTest");

  private static long sum = 0;

  public static void main(String[] args) {
    long me = Thread.currentThread().getId();
    LadderSigns x = desk();
    everyCall(x);
    x = desk();
    // The first look may itself make something.
    ROOM.getThreadAllocatedBytes(me);
    long before = ROOM.getThreadAllocatedBytes(me);
    for (int i = 0; i < 12; i++) everyCall(x);
    long after = ROOM.getThreadAllocatedBytes(me);
    DUE.is("bytes that calls take", after - before, 0);
    before = ROOM.getThreadAllocatedBytes(me);
    LadderSigns y = new LadderSigns();
    after = ROOM.getThreadAllocatedBytes(me);
    DUE.is("a desk of " + (after - before) + " bytes is small", after - before < MOST_BYTES_OF_A_DESK ? 1 : 0, 1);
    DUE.is("the calls were made", sum != 0 && y.count(1) == 400 ? 1 : 0, 1);
    DUE.end();
  }

  private static LadderSigns desk() {
    LadderSigns x = new LadderSigns();
    for (int s = 0; s < Desk.SLOTS; s++) Desk.put(x, s, Model.bytesOf(Model.BASE).add(BigInteger.valueOf(s / 2)));
    return x;
  }

  private static void everyCall(LadderSigns x) {
    sum += x.set(23, 0, 5) + x.word(0, 0) + x.copy(0, 22) + x.type(7, 8) + x.at(0) + x.flip(20, 3, 3);
    sum += x.field(0, 0, 1, 10) + x.field(1, 0, 1, 10) + x.field(2, 0, 1, 10) + x.field(3, 0, 1, 10);
    sum += x.power(0, 1, 10) + x.root(0, 10) + x.about(0, 3) + x.compare(0, 1) + x.scalar(0, 1, 2, 10);
    sum += x.isPoint(0) + x.across(0, 10) + x.sum(1, 0, 0, 10) + x.times(3, 0, 10) + x.base(3, 10);
    sum += x.small(0) + x.other(0, 10) + x.share(0, 1, 10) + x.digest(11) + x.key(3, 13) + x.sign(3, 14);
    sum += x.judge(13, 14) + x.judge(13, 15) + x.count(4) + x.clear() + x.set(99, 99, 99) + x.type(1, 99);
  }
}
