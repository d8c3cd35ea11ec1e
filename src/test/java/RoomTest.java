import java.lang.management.ManagementFactory;

/** That no call makes an object or an array: what there is was made by the constructor. */
public final class RoomTest {
    private static final com.sun.management.ThreadMXBean ROOM =
        (com.sun.management.ThreadMXBean) ManagementFactory.getThreadMXBean();
    private static final String[] LINES = {"q06p3s9c5u2g4o9", "q00g9g9g9s1u9p9"};

    private static long sum = 0;

    public static void main(String[] args) {
        Check.at("room");
        QueuePlaces x = new QueuePlaces();
        calls(x);
        x = new QueuePlaces();
        long before = ROOM.getCurrentThreadAllocatedBytes();
        calls(x);
        long after = ROOM.getCurrentThreadAllocatedBytes();
        Check.due("bytes made by calls", after - before, 0);
        before = ROOM.getCurrentThreadAllocatedBytes();
        x = new QueuePlaces();
        after = ROOM.getCurrentThreadAllocatedBytes();
        sum += x.digest();
        Check.that("bytes of a new object: " + (after - before), after - before > 0 && after - before < 20_000);
        Check.that("calls were made", sum != 0);
        Check.end("RoomTest");
    }

    private static void calls(QueuePlaces x) {
        for (int t = 0; t < 2; t++) {
            x.text(t, LINES[t].length());
            for (int i = 0; i < LINES[t].length(); i++) {
                x.put(t, i, LINES[t].charAt(i));
            }
            sum += x.fault(t) + x.line(t) + x.row(0, 4) + x.row(1, 0) + x.lay(0, 3, 1) + x.at(0, 3);
            sum += x.copy(0, 0, 0, 1, 2) + x.mean(0) + x.one(0, 6) + x.mark(4, 1);
            sum += x.ticket(3, 0) + x.ticket(5, 2) + x.ticket(3, 1) + x.keep(0) + x.falls(0) + x.back(0);
            sum += x.loaves(3) + x.undo(2) + x.on(0) + x.who(0) + x.sold(0, 1) + x.wants(5, 5) + x.gets(3, 0);
            sum += x.best(3) + x.wish(0, 5, 3, 2) + x.lines(0) + x.can(1, 0) + x.next(1) + x.sets(4) + x.sure(4);
            sum += x.duel(0, 4, 2) + x.odds(3, 4) + x.mid(5) + x.lots(20, 77) + x.asked() + x.upper() + x.lower();
            sum += x.count(4) + x.finding() + x.findings(1) + x.tear(2) + x.digest();
        }
    }
}
