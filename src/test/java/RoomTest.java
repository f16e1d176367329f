import java.lang.management.ManagementFactory;

/** All calls of a run share one room: a used object makes nothing more, and a new one is small. */
public final class RoomTest {
    private static final com.sun.management.ThreadMXBean BEAN =
        (com.sun.management.ThreadMXBean) ManagementFactory.getThreadMXBean();

    private static long made() {
        return BEAN.getThreadAllocatedBytes(Thread.currentThread().getId());
    }

    public static void main(String[] args) {
        FellTree warm = full();
        everything(warm);
        FellTree[] some = new FellTree[25];
        for (int i = 0; i < some.length; i++) {
            some[i] = full();
            some[i].image();
        }
        long before = made();
        for (int i = 0; i < 4 * some.length; i++) {
            everything(some[i / 4]);
        }
        long used = made() - before;
        Due.holds("rule 12: 100 rounds of calls made " + used + " bytes", used < 20000);
        before = made();
        for (int i = 0; i < 1000; i++) {
            new FellTree().image();
        }
        used = (made() - before) / 1000;
        Due.holds("rule 12: an object with THE IMAGE has " + used + " bytes", used < 8000);
        Due.end();
    }

    private static FellTree full() {
        FellTree x = new FellTree();
        for (int i = 0; i < 6; i++) {
            x.tree(i, 3, 10 * i + 2, 7);
            x.lean(i, i, 5, 4);
        }
        Due.wood(x, "hold 3 h>4|!(t=1&!(k=2|l<5));split 2 o>1;wind 3 w<5");
        x.gusts(5);
        return x;
    }

    private static void everything(FellTree x) {
        x.image();
        for (int tree = 0; tree < 6; tree++) {
            x.goes(tree, 7);
            x.lies(tree);
            x.wide(tree, 9);
            x.least(tree, 7);
            x.sure(tree, 1, 1);
            x.stand(tree);
            x.blame(tree, 3);
            x.knock(tree, 1);
            x.limbs(tree);
            x.act(tree, 2, 7);
            x.as(tree, 3);
        }
        x.fell(0);
        x.order(4);
        x.hung();
        x.book(3);
        x.judged(1);
        x.feed('h');
        x.wood();
        x.undo();
    }
}
