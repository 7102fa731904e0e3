import java.lang.management.ManagementFactory;

/** All calls live in one room: what an object makes it makes when it is made, and no call makes more. */
public final class RoomTest {
    private static final int OBJECTS = 200;

    private RoomTest() {
    }

    public static void main(String[] args) {
        com.sun.management.ThreadMXBean threads =
                (com.sun.management.ThreadMXBean) ManagementFactory.getThreadMXBean();
        calls(Check.deckOf("c503x174w830d291t046m962"));
        long began = threads.getCurrentThreadAllocatedBytes();
        CardPasses[] made = new CardPasses[OBJECTS];
        for (int k = 0; k < OBJECTS; k++) {
            made[k] = Check.deckOf("c503x174w830d291t046m962");
        }
        long each = (threads.getCurrentThreadAllocatedBytes() - began) / OBJECTS;
        Check.due("bytes for each object are few", each < 8000 ? 0 : each, 0);
        began = threads.getCurrentThreadAllocatedBytes();
        for (int k = 0; k < OBJECTS; k++) {
            calls(made[k]);
        }
        long more = threads.getCurrentThreadAllocatedBytes() - began;
        Check.due("bytes made by calls", more < 10000 ? 0 : more, 0);
        Check.end("RoomTest");
    }

    private static void calls(CardPasses x) {
        x.row(0, 10);
        x.text(1, 60);
        x.fault(0);
        x.deck(0);
        x.copy(0, 0, 0, 1, 9);
        x.lots(20, 77);
        x.keep(0);
        x.turn();
        x.undo(3);
        x.on(0);
        x.run(0, 1);
        x.columns(1);
        x.fewest(3, 2, 2);
        x.order(1, 2);
        x.row(0, 2);
        x.kinds(0, 0);
        x.figures(0, 0, 0);
        x.next(0, 0);
        x.sets(0, 9);
        x.sure(0, 9);
        x.duel(1, 3, 3);
        x.odds(1, 2, 5);
        x.mid(1, 2, 5);
        x.digest();
    }
}
