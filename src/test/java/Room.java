import com.sun.management.ThreadMXBean;
import java.lang.management.ManagementFactory;

/** All calls of a run live in one room: an object makes its rows at first, and no call makes more. */
public final class Room {
    private static final int CALLS = 200;

    private Room() {
    }

    public static void main(String[] args) {
        ThreadMXBean bean = (ThreadMXBean) ManagementFactory.getThreadMXBean();
        long id = Thread.currentThread().getId();
        bean.getThreadAllocatedBytes(id);
        make();
        long before = bean.getThreadAllocatedBytes(id);
        SumRewriter x = make();
        long made = bean.getThreadAllocatedBytes(id) - before;
        Check.due("an object has less than 400,000 bytes", made < 400000, true);
        long sum = use(x);
        before = bean.getThreadAllocatedBytes(id);
        for (int i = 0; i < CALLS; i++) {
            sum += use(x);
        }
        long used = bean.getThreadAllocatedBytes(id) - before;
        Check.due("calls make nothing (" + used + " bytes, " + sum + ")", used < 20 * CALLS, true);
        Check.finish("Room");
    }

    private static SumRewriter make() {
        SumRewriter x = new SumRewriter();
        Check.signature(x, "free a 0;free b 0;free e 0;free s 1;c m;ac plus unit e;ac un;var x;var y;var z;");
        Check.term(x, "un(s(a),plus(a,b,s(b)),m(a,s(b)))");
        Check.term(x, "plus(a,b,a,s(a))");
        Check.term(x, "plus(x,s(y))");
        Check.rule(x, "plus(x,a,b)=s(x)");
        Check.rule(x, "un(x,m(a,y))=x");
        Check.rule(x, "s(x)=x");
        return x;
    }

    private static long use(SumRewriter x) {
        long sum = 0;
        for (int t = 0; t < 3; t++) {
            sum += x.steps(t) + x.matches(2, t == 2 ? 2 : 1) + x.show(t) + x.place(t, 1) + x.about(t, 7) + x.order(t, 0);
            sum += x.step(t, 0) + x.stepAt(t, 0, 1) + x.atTop(t, 0) + x.walk(t) + x.reach(t, 1, true) + x.keep();
            sum += x.reached(t, 1, false, 0) + x.meet(t, 0, 1) + x.fill(t, 0, 2) + x.join(5, 2, 2) + x.rank(t);
            sum += x.bound(2, 1, 0, 0) + x.side(t, true) + x.octet(t) + x.count(6) + x.count(8) + x.operator(5, 3);
            x.turn(t, true);
        }
        x.feed(0x78202020, 0x20202020, 0x20202020, 0x20202020, 0x20202020);
        x.end(1);
        return sum + x.term() + x.fault();
    }
}
