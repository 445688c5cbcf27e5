import com.sun.management.ThreadMXBean;
import java.lang.management.ManagementFactory;

/** What an object and its calls take of the room: all rows are made in the constructor. */
public final class RoomTest {
  private static final Check CHECK = new Check();
  private static final ThreadMXBean THREADS = (ThreadMXBean) ManagementFactory.getThreadMXBean();
  private static int answers = 0;

  private static long taken() {
    return THREADS.getThreadAllocatedBytes(Thread.currentThread().getId());
  }

  private static TaleDesk full() {
    TaleDesk x = new TaleDesk();
    for (int t = 0; t < 10; t++) {
      x.tale(t % 4, t % 6, 10 * t);
      for (int i = 0; i < 10; i++) {
        x.step(t, (3 * t + i * i) % 16, (t + i) % 4, (t * i) % 4);
      }
    }
    return x;
  }

  private static void askAll(TaleDesk x, int i) {
    int t = i % 10;
    int u = (i + 3) % 10;
    answers += x.unstep(t) + x.step(t, i % 16, 0, 1) + x.recode(i % 16, 1) + x.price(i % 3, i % 10);
    answers += x.way(i % 6, (i + 1) % 6, i) + x.print(3, u) + x.tale(4, 0, 0) + x.as(t, 0) + x.of(t, 1, 1);
    answers += x.told(t, 4) + x.cost(t, u) + x.carried(t, u, 1) + x.pair(t, u, 1) + x.pairs(t, u, true);
    answers += x.mould(1023) + x.spread(1023) + x.tree(1023) + x.branch(1023, 5) + x.nearest(t);
    answers += x.source(t) + x.first(t) + x.borrowed(t, u, 0) + x.joined(t, u, 5, true);
    answers += x.count(1, -1, true) + x.home(1) + x.sheet(0, 8, 30) + x.put(0, 3, 1) + x.copy(0, 0, 0, 5, 9);
    answers += x.lay(t, 0) + x.undo() + x.all(1);
  }

  public static void main(String[] args) {
    askAll(full(), 0);
    taken();
    long ahead = taken();
    TaleDesk made = new TaleDesk();
    long ofOne = taken() - ahead;
    CHECK.holds("an object in " + ofOne + " bytes", ofOne > 0 && ofOne < 40000 && made.all(0) == 0);
    TaleDesk x = full();
    ahead = taken();
    for (int i = 0; i < 12; i++) {
      askAll(x, i);
    }
    long ofCalls = taken() - ahead;
    CHECK.holds("372 calls in " + ofCalls + " bytes", ofCalls < 1000);
    CHECK.holds("answers", answers != 0);
    CHECK.end("RoomTest");
  }
}
