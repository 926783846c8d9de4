import com.sun.management.ThreadMXBean;
import java.lang.management.ManagementFactory;

/**
 * What a run makes is kept in one room (rule 12): an object makes all that it needs when it is made, and no call that
 * answers makes anything. Here this is measured for 512 calls, for those that have the most to do.
 */
public final class RoomTest {
    /** For what the machine itself makes when a method is first called; 512 calls that make one object need more. */
    private static final long FEW_BYTES = 512 * 16 - 1;
    private static final int CALLS = 512;
    private static final ThreadMXBean THREADS = (ThreadMXBean) ManagementFactory.getThreadMXBean();

    private static int[] kept;

    private interface Use {
        int of(ReliefBuilder builder);
    }

    public static void main(String[] args) {
        Check.due("an object is small", true, () -> bytesOfObject() < 100_000);
        small("fed texts", b -> b.feed(0x736c6f70, 0x6520353b, 0x20202020, 0x20202020, 0x20202020) * b.readText());
        small("fed scripts", b -> b.feed(0x72657065, 0x61742032, 0x30286469, 0x74686572, 0x3b293b20) * b.runScript());
        small("light", b -> (int) b.meanError() + b.worstCell() + b.fingerprint() + b.brightest() + b.darkestRow()
                + (int) b.contrast() + b.heightFor(7) + (int) b.estimate(1, 1) + (int) b.light(20));
        small("walls", b -> b.thinCells() + b.repairLoss() + (b.isThin(3, 3) ? 1 : 0));
        small("supports", b -> b.supportedCells() + b.supportVolume() + b.safeSlope() + b.overhang(3, 3));
        small("layers", b -> b.layerCells(3) + b.runs(3) + b.rectangles(3) + b.rectangle(3, 0, 3) + b.largest(3)
                + b.rectangleAt(3, 5, 5) + b.shortest(3) + b.parts(3) + b.outline(3) + b.hollows(3)
                + b.allRectangles());
        small("tones", b -> b.setTone(2, 2, 99) + b.invert() + b.lighten(9) + b.dither() + b.polish() + b.mirror());
        small("heights", b -> b.setHeight(3, 3, 20) + b.fill(1, 1, 9, 9, 4) + b.smooth(2) + b.ease() + b.repair());
        small("stamps", b -> b.stamp(1, 1, 2, 2) + b.stampGain(1, 1, 0, 0) + b.stampAt(1, 1));
        small("racks", b -> (b.putStamp(2, 2, 0, 6, 20) ? 1 : 0) + (b.moveStamp(2, 2, 0, 0) ? 1 : 0)
                + (b.takeStamp(0, 0) ? 1 : 0));
        small("reports", b -> b.report() + b.reportByte(0));
        small("what is kept", b -> b.invert() + b.undo() + b.save(1) + b.restore(1) + b.volume() + b.steepest());
        Check.due("what is made is seen", true, () -> bytesOf(RoomTest::picture, b -> make()) > FEW_BYTES);
        Check.end("RoomTest");
    }

    private static int make() {
        kept = new int[1];
        return kept.length;
    }

    private static long bytesOfObject() {
        picture();
        long before = THREADS.getCurrentThreadAllocatedBytes();
        ReliefBuilder builder = new ReliefBuilder();
        long after = THREADS.getCurrentThreadAllocatedBytes();
        return builder.volume() == 0 ? 0 : after - before;
    }

    /** The largest panel with all heights, a stamp and a report. */
    private static ReliefBuilder picture() {
        ReliefBuilder b = Check.relief("panel 16 12;steps 20 glass 90 base 0;wall 4;slope 0;");
        for (int i = 0; i < 16 * 12; i++) {
            b.setTone(i % 16, i / 16, i * 37 % 256);
        }
        b.putStamp(1, 1, 1, 6, 3);
        b.report();
        return b;
    }

    private interface Making {
        ReliefBuilder made();
    }

    /** The calls are few enough that all of them stand in the 512 of an object. */
    private static long bytesOf(Making making, Use use) {
        long bytes = 0;
        int sum = 0;
        for (int n = 0; n < CALLS; n += 16) {
            ReliefBuilder b = making.made();
            long before = THREADS.getCurrentThreadAllocatedBytes();
            for (int i = 0; i < 16; i++) {
                sum += use.of(b);
            }
            bytes += THREADS.getCurrentThreadAllocatedBytes() - before;
        }
        return sum == Integer.MIN_VALUE ? -1 : bytes;
    }

    private static void small(String what, Use use) {
        bytesOf(RoomTest::picture, use);
        long bytes = bytesOf(RoomTest::picture, use);
        Check.due(what + " make nothing, " + bytes + " bytes", true, () -> bytes <= FEW_BYTES);
    }
}
