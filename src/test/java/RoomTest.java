import com.sun.management.ThreadMXBean;
import java.lang.management.ManagementFactory;

/** No call makes objects: what a run makes is what its constructors make. */
public final class RoomTest {
    private static final String TEXT = "BF0llpF1lwfF2pppF3fplF0pfwF1wlfG03G12G29G44G50";

    public static void main(String[] args) {
        ThreadMXBean room = (ThreadMXBean) ManagementFactory.getThreadMXBean();
        for (int k = 0; k < 5; k++) {
            useAll(new FoilBazaar());
        }
        FoilBazaar x = new FoilBazaar();
        long before = room.getCurrentThreadAllocatedBytes();
        for (int k = 0; k < 200; k++) {
            useAll(x);
        }
        long made = room.getCurrentThreadAllocatedBytes() - before;
        // a call that made one object would make far over 200 of 16 bytes and more
        Check.holds("200 uses of all calls made " + made + " bytes", made < 200 * 16);
        Check.end("RoomTest");
    }

    private static void useAll(FoilBazaar x) {
        x.wipe();
        for (int k = 0; k < TEXT.length(); k++) {
            x.write(TEXT.charAt(k));
        }
        x.fault();
        x.bazaar();
        for (int k = 0; k < 20; k++) {
            x.meet(k % 6, k % 5);
            x.step(k % 6);
            x.salute(k % 6, 9);
            x.see(k % 6, 3);
        }
        x.undo();
        x.keep(0);
        x.again(0);
        for (int k = 0; k < 6; k++) {
            x.fencer(k, k);
            x.good(k, k % 3);
            x.bout(k, 5 - k, k % 3);
            x.cost(k, 0);
            x.chain(k, 1, k % 2);
            x.order(k % 2);
            x.judge(4, 110309402500L);
            x.masks(k % 2);
            x.share(k, true);
            x.rests(k, 5 - k, k % 2);
            x.clouded(k, 5 - k, 3, false);
            x.seed(k);
            x.feasts(30);
            x.count(k + 4);
        }
        x.unsee();
    }
}
