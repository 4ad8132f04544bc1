import com.sun.management.ThreadMXBean;
import java.lang.management.ManagementFactory;

/** What a run of 512 calls makes: the dearest calls make nothing, a text a few rows. */
public final class RoomTest extends Due {
  private static final ThreadMXBean BEAN = (ThreadMXBean) ManagementFactory.getThreadMXBean();
  private static final int CALLS = 512;

  public static void main(String[] args) {
    // What the machine makes on the first use of each class is not the program's.
    run(7, 16);
    run(5, 16);
    long seven = bytes(7);
    long five = bytes(5);
    due("a run with 7 boxes makes " + seven + " bytes", seven < 400_000 ? 1 : 0, 1);
    due("a run with 5 boxes makes " + five + " bytes", five < 400_000 ? 1 : 0, 1);
    close();
  }

  private static long bytes(int boxes) {
    long before = BEAN.getThreadAllocatedBytes(Thread.currentThread().getId());
    run(boxes, CALLS);
    return BEAN.getThreadAllocatedBytes(Thread.currentThread().getId()) - before;
  }

  private static void run(int boxes, int calls) {
    StepWorld x = new StepWorld();
    x.whole(16);
    for (int i = 0; i < boxes; i++) {
      x.box(0, 0, 0);
      x.seam(10 * i, 10 * i);
    }
    x.sheet(0, 8, 24);
    for (int i = 0; i < calls; i++) {
      x.feed(0x753D612B, 4);
      x.feed(0x31, 1);
      dearest(x, i);
    }
  }

  private static void dearest(StepWorld x, int i) {
    switch (i % 10) {
      case 0: x.text(0); break;
      case 1: x.answers(0); break;
      case 2: x.step(i < 100 ? 50 : 1); break;
      case 3: x.back(1); break;
      case 4: x.best(-1); break;
      case 5: x.lay(3, -1); break;
      case 6: x.change(0, 30); break;
      case 7: x.judge(0, 0); break;
      case 8: x.beside(2, 30); break;
      default: x.image(); x.undo(); break;
    }
  }
}
