import com.sun.management.ThreadMXBean;
import java.lang.management.ManagementFactory;

/**
 * All calls of a run share one room of some 600,000 objects, so only the constructor may make any:
 * a thousand objects with their 512 calls stay within what a thousand constructors need.
 */
public final class RoomTest {
    private static final int OBJECTS = 1000;
    private static final int CALLS = 512;
    private static final long BYTES_OF_AN_OBJECT = 4096;

    public static void main(String[] args) {
        Check check = new Check();
        ThreadMXBean threads = (ThreadMXBean) ManagementFactory.getThreadMXBean();
        long thread = Thread.currentThread().getId();
        use(new TrailedDomains());
        long before = threads.getThreadAllocatedBytes(thread);
        for (int i = 0; i < OBJECTS; i++) {
            use(new TrailedDomains());
        }
        long bytes = (threads.getThreadAllocatedBytes(thread) - before) / OBJECTS;
        System.out.println(bytes + " bytes for an object and its calls");
        check.due("an object and its calls are small", bytes <= BYTES_OF_AN_OBJECT, true);
        check.end();
    }

    private static void use(TrailedDomains object) {
        for (int x = 0; x < 6; x++) {
            object.variable(255);
        }
        object.entry(0, 1, -1, 2);
        object.entry(0, -1, 3, 4);
        for (int call = 8; call < CALLS; call += 16) {
            object.push();
            object.differ(0, 1, 1);
            object.exceed(1, 2, 1);
            object.total(2, 3, 4, 9);
            object.listed(0, 3, 4, 5);
            object.remove(0, 3);
            object.close();
            object.supports(3, 3, 1);
            object.search();
            object.advance(20);
            object.advance(20);
            object.advance(20);
            object.depth();
            object.found();
            object.stop();
            object.pop();
        }
    }
}
