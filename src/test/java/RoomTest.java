import java.lang.management.ManagementFactory;

/** Calls make no objects, and a new object is small: all calls of a run live in one room. */
public final class RoomTest {
  private static final com.sun.management.ThreadMXBean ROOM =
      (com.sun.management.ThreadMXBean) ManagementFactory.getThreadMXBean();

  public static void main(String[] args) {
    Due due = new Due();
    FerryChange x = Due.ferry("p5550 b8551 l5550 w5551 s8550 c5551");
    x.row(0, 6);
    Due.row(x, 1, 0, 0, 0);
    Due.row(x, 2, 1, 16);
    everything(x);
    long before = made();
    for (int k = 0; k < 100; k++) {
      everything(x);
    }
    due.is("calls make no objects", made() - before > 4096 ? 1 : 0, 0);
    before = made();
    FerryChange y = new FerryChange();
    due.is("a new object is small", made() - before > 24000 ? 1 : 0, 0);
    due.is("it is new", y.count(7), 0);
    due.end();
  }

  private static long made() {
    return ROOM.getThreadAllocatedBytes(Thread.currentThread().getId());
  }

  private static void everything(FerryChange x) {
    x.row(4, 40);
    x.lay(4, 1, 1);
    x.copy(4, 0, 4, 1, 39);
    x.mean(4);
    x.text(1, 60);
    x.put(1, 0, 'p');
    x.fault(1);
    x.ferry(0);
    x.mark(5, 2);
    x.lots(20, 7);
    x.set(0, 0, 1);
    x.keep(1);
    x.undo(3);
    x.on(1);
    x.run(4, 0);
    x.fewest(4, 1, 1, 3);
    x.lives(4, 4);
    x.declared(0, 1);
    x.kinds(0, 2);
    x.next(0, 2);
    x.boats(60);
    x.sets(30);
    x.sure(30);
    x.alike(0, 4);
    x.duel(0, 4, 2);
    x.odds(4, 0, 5);
    x.mid(4, 0, 5);
    x.tear(4);
    x.digest();
  }
}
