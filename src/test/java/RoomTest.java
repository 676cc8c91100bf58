import com.sun.management.ThreadMXBean;
import java.lang.management.ManagementFactory;
import java.util.function.Consumer;

/**
 * All calls of one run live in one room of some 7.3 million fields and elements; what is let go is not given back there.
 * Bytes are what can be counted from here, so the bounds are in bytes: eight of them are one element at the most.
 */
public final class RoomTest {
    private static final int CALLS = 512;
    private static final long OBJECT_BYTES = 64 * 1024;
    private static final long TEXT_BYTES = 8 * 1024;
    private static final String LAND = "land 7 by 7 hunt 3 3;chapel 0 0;bell b at 1 1 rope 3;bell c at 5 5 rope 4;"
        + "walker w from 0 6 to 6 0 does 2;walker v from 2 3 to 6 3 does 1;rides night+hour*column-row;pays 7-met;"
        + "keeps purse>20 or not hour<9;storm 30;";
    private static final ThreadMXBean THREADS = (ThreadMXBean) ManagementFactory.getThreadMXBean();

    public static void main(String[] args) {
        Hand.at("one room for all calls");
        within("a new object", new WildHunt(), OBJECT_BYTES, x -> new WildHunt());
        within("land", told(), CALLS * TEXT_BYTES, x -> times(() -> x.land()));
        within("ask", told(), CALLS * TEXT_BYTES, x -> times(() -> x.ask()));
        takesNone("feed", x -> x.feed(1, 2, 3, 4, 5));
        takesNone("end", x -> x.end(0));
        takesNone("fault", x -> x.fault(0));
        takesNone("has", x -> x.has(8));
        takesNone("letter", x -> x.letter(0, 0, 0));
        takesNone("cell", x -> x.cell(1, 1, 2));
        takesNone("bell", x -> x.bell(0, 4));
        takesNone("walker", x -> x.walker(0, 6));
        takesNone("told", x -> x.told(0, 0));
        takesNone("hunt", x -> x.hunt(11, 0));
        takesNone("meets", x -> x.meets(0));
        takesNone("safe", x -> x.safe(0));
        takesNone("peal", x -> x.peal());
        takesNone("rest", x -> x.rest());
        takesNone("later", x -> x.later(60, 0));
        takesNone("chapel", x -> x.chapel(20, 2));
        takesNone("first", x -> x.first(0));
        takesNone("see", x -> x.see());
        takesNone("began", x -> x.began(0));
        takesNone("tells", x -> x.tells(1));
        takesNone("ring", x -> x.ring(0, 1 - x.bell(0, 3)));
        takesNone("does", x -> x.does(0, 3 - x.walker(0, 4)));
        takesNone("nights", x -> x.nights(1));
        takesNone("chance", x -> x.chance(1));
        takesNone("undo", x -> x.undo());
        takesNone("seed", x -> x.seed(7));
        takesNone("image", x -> x.image());
        takesNone("octet", x -> x.octet(0));
        takesNone("on", x -> x.on());
        takesNone("status", x -> x.status(0));
        Hand.end();
    }

    private static WildHunt told() {
        return Hand.over(LAND);
    }

    private static void times(Runnable call) {
        for (int k = 0; k < CALLS; k++) {
            call.run();
        }
    }

    private static void takesNone(String name, Consumer<WildHunt> call) {
        WildHunt x = told();
        // Some hundred bytes for what the machine itself makes when a call is first met.
        within(name, x, CALLS, y -> times(() -> call.accept(y)));
    }

    private static void within(String name, WildHunt x, long most, Consumer<WildHunt> calls) {
        calls.accept(x);
        long before = THREADS.getThreadAllocatedBytes(Thread.currentThread().getId());
        calls.accept(x);
        long taken = THREADS.getThreadAllocatedBytes(Thread.currentThread().getId()) - before;
        Hand.due(name + " takes " + taken + " bytes, within " + most, taken <= most, true);
    }
}
