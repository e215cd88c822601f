import java.lang.management.ManagementFactory;

/** All calls of a run live in one room that is never cleared: once an object is made, its calls make nothing. */
public final class RoomTest {
    private static final String TEXT = "wet 40 20;packed 30 18;iced 12 25;powder 50 20;packed 90 20;day 0 3 5;day 6 9 0;";

    public static void main(String[] args) {
        Due due = new Due();
        com.sun.management.ThreadMXBean room = (com.sun.management.ThreadMXBean) ManagementFactory.getThreadMXBean();
        long id = Thread.currentThread().getId();
        long sum = allCalls(new SnowReign());
        SnowReign x = new SnowReign();
        long before = room.getThreadAllocatedBytes(id);
        for (int k = 0; k < 5; k++) {
            sum += allCalls(x);
        }
        long bytes = room.getThreadAllocatedBytes(id) - before;
        // The measuring itself takes some hundred bytes.
        due.isTrue("the calls make nothing, but they took " + bytes + " bytes", bytes < 4096);
        before = room.getThreadAllocatedBytes(id);
        SnowReign y = new SnowReign();
        bytes = room.getThreadAllocatedBytes(id) - before;
        due.isTrue("a new object is small, but it took " + bytes + " bytes", bytes < 40000);
        due.isTrue("something was asked", sum + y.rule(0) != 0);
        due.close();
    }

    private static long allCalls(SnowReign x) {
        long sum = 0;
        for (int k = 0; k < TEXT.length(); k++) {
            sum += x.feed(TEXT.charAt(k));
        }
        sum += x.text() + x.fault() + x.end(0) + x.rule(5) + x.figure(0, 3) + x.week(0, 0);
        sum += x.alter(0, 1, 41) + x.set(0, 0, 2) + x.clear(4) + x.roll(1, 5) + x.ice(0) + x.salt(0) + x.keep(0) + x.days(1);
        sum += x.runs(60, 4) + x.ahead(0, 60, 0) + x.falls(0) + x.reign(0, 60, 0) + x.decree(60) + x.coup();
        sum += x.need(0, 60) + x.bucket(0) + x.swap(60, 0) + x.lee(60, 0) + x.kind(0, 0) + x.face(0, 0) + x.thaw(0, 60);
        sum += x.luck(5, 8, 0) + x.mean(5, 8, 1) + x.see(30, 9) + x.kinds(0) + x.sizes(0) + x.leans(0, 0) + x.ask(0, 0) + x.forget(0);
        sum += x.drift(1, 60, 0) + x.back(0) + x.sheet(0, 1, 40) + x.lay(0, 1, 7) + x.clear(0) + x.read(0, 1, 0, 5) + x.torn() + x.count(5);
        return sum;
    }
}
