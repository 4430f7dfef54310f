import com.sun.management.ThreadMXBean;
import java.lang.management.ManagementFactory;

/** What a run makes must stay small: the dearest calls make nothing at all behind the constructor. */
public final class RoomTest {
  private static final int MOST_BYTES_MADE = 40000;
  private static final int CALLS = 512;

  public static void main(String[] args) {
    ThreadMXBean threads = (ThreadMXBean) ManagementFactory.getThreadMXBean();
    long self = Thread.currentThread().getId();
    threads.getThreadAllocatedBytes(self);
    play(new WantedTypes());
    long start = threads.getThreadAllocatedBytes(self);
    WantedTypes x = new WantedTypes();
    long made = threads.getThreadAllocatedBytes(self);
    play(x);
    long behind = threads.getThreadAllocatedBytes(self);
    System.out.println("an object takes " + (made - start) + " bytes, some " + CALLS + " calls " + (behind - made));
    boolean small = made - start <= MOST_BYTES_MADE && behind - made <= 1000;
    if (!small) System.exit(1);
  }

  private static void play(WantedTypes x) {
    int[] tape = "w2;u0;u0;l0,1;l1,1;c0,1,0,0;c1,1,1,0;m0,1,0,1;".chars().toArray();
    int calls = 0;
    for (int letter : tape) {
      x.feed(letter);
      calls++;
    }
    x.world();
    calls++;
    for (int k = 0; calls + 9 <= CALLS; k++) {
      x.row(k % 8, k % 3, 40);
      x.cost(k % 2, 1 + k % 9);
      x.image(k % 2);
      x.drawn(0, 60, 1 + k, 1);
      x.listed(1, 999999998, 3);
      x.place(0, k % 8, 24);
      x.needed(0);
      x.ask(k % 5, k % 2);
      x.restore(k % 2);
      calls += 9;
    }
  }
}
