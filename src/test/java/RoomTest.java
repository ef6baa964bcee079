import java.lang.management.ManagementFactory;

/** What a run makes: an object and its rows once, and nothing by a call that has been asked before. */
public final class RoomTest {
    private static long made() {
        com.sun.management.ThreadMXBean bean = (com.sun.management.ThreadMXBean) ManagementFactory.getThreadMXBean();
        return bean.getThreadAllocatedBytes(Thread.currentThread().getId());
    }

    private static int askAll(HalfAJoke x) {
        int sum = x.state(3) + x.half(0, 1, 2, 3) + x.heirs(4, 1) + x.guest(2) + x.feed(0x6c617567, 0x6820313b, 0, 0, 0);
        x.give(0, 1, 3, 4);
        x.feud(0, 1, true);
        x.seat(0, 1);
        x.set(1, 1);
        x.end(8);
        sum += x.text() + x.fault(0) + x.evenings(7) + x.of(0, 0) + x.who(0, 0) + x.laugh(0, 1) + x.told(0, 1);
        sum += x.telling(0, 0) + x.book(0, 0) + x.fame(0) + x.merry() + x.fit(0) + x.seating(0) + x.change(0);
        sum += x.like(0, 9) + x.silent(0) + x.worth(3, 0) + x.away(0) + x.uncle(0, 0) + x.look(9);
        x.undo();
        x.image(true);
        x.image(false);
        return sum;
    }

    private static HalfAJoke full() {
        HalfAJoke x = new HalfAJoke();
        for (int i = 0; i < 15; i++) x.half(i % 2, i % 10, i * 6, i % 6);
        for (int i = 0; i < 6; i++) x.guest(i);
        for (int i = 0; i < 6; i++) x.seat(i, i);
        Check.text(x, "laugh front+end-told;");
        return x;
    }

    public static void main(String[] args) {
        // Once before, so that what the machine makes at a class's first use does not count.
        askAll(full());
        made();
        HalfAJoke x = full();
        long before = made();
        new HalfAJoke();
        long whole = made() - before;
        askAll(x);
        long between = made();
        for (int i = 0; i < 10; i++) askAll(x);
        long behind = made() - between;
        Check.due("a new object is small: " + whole, whole < 40_000, true);
        Check.due("calls asked again make nothing: " + behind, behind < 2_000, true);
        Check.finish();
    }
}
