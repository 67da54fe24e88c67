import java.util.Arrays;

/** "An object is used for at most 512 calls": all holds up to the 512th; and the counter, where it begins anew. */
public final class LongUseTest {
    private static final Due DUE = new Due();
    private static final int CALLS = 512;
    private static final byte[] NOTHING = new byte[0];

    public static void main(String[] args) {
        lastCallReads();
        lastCallThrows();
        lastCallTranslates();
        onlyDrops();
        onlyFeeds();
        asTheModel();
        counterOfOneUse();
        counterBeginsAnew();
        DUE.finish();
    }

    /** An object with this many calls behind it, that has translated 101 packets, the latest in two pieces. */
    private static PacketTranslator used(int calls) {
        PacketTranslator x = new PacketTranslator();
        x.limits(68, 1280);
        int made = 1;
        for (int k = 0; k < 100; k++) {
            feed(x, Wire.six(0, 50, 9, NOTHING));
            x.six();
            made += 3;
        }
        feed(x, Wire.six(0, 50, 9, Wire.counting(60)));
        x.six();
        made += 6;
        for (; made < calls; made++) {
            x.count(0);
        }
        return x;
    }

    /** A call for each twenty bytes and no other: the packet's length is a multiple of it. */
    private static int feed(PacketTranslator x, byte[] packet) {
        for (int i = 0; i < packet.length; i += 20) {
            x.feed((int) Wire.quad(packet, i), (int) Wire.quad(packet, i + 4), (int) Wire.quad(packet, i + 8),
                (int) Wire.quad(packet, i + 12), (int) Wire.quad(packet, i + 16));
        }
        return packet.length / 20;
    }

    private static void lastCallReads() {
        DUE.about("An object is used for at most 512 calls");
        DUE.is("parts", used(CALLS - 1).parts(), 2);
        DUE.is("size", used(CALLS - 1).size(1), 32);
        DUE.is("size of none", used(CALLS - 1).size(2), -1);
        DUE.is("octet", used(CALLS - 1).octet(1, 31), Wire.at(Wire.counting(60), 59));
        DUE.is("check", used(CALLS - 1).check(0, 0, 20), 0);
        DUE.is("image", used(CALLS - 1).image(Wire.HOST, false), Wire.WELL_KNOWN);
        DUE.is("address", used(CALLS - 1).address(Wire.WELL_KNOWN, 0x01020304), 0x01020304);
        DUE.is("count of translated", used(CALLS - 1).count(0), 101);
        DUE.is("count of the counter", used(CALLS - 1).count(12), 101);
        DUE.is("count of the tape", used(CALLS - 1).count(11), 0);
        DUE.is("count of MTU4", used(CALLS - 1).count(13), 68);
        DUE.is("feed", used(CALLS - 1).feed(1, 2, 3, 4, 5), 20);
        DUE.is("end", used(CALLS - 1).end(0), 0);
    }

    private static void lastCallThrows() {
        Class<?> argument = IllegalArgumentException.class;
        Class<?> index = IndexOutOfBoundsException.class;
        DUE.thrown("end", argument, () -> used(CALLS - 1).end(1));
        DUE.thrown("prefix", argument, () -> used(CALLS - 1).prefix(0, 0, 33));
        DUE.thrown("prefix", null, () -> used(CALLS - 1).prefix(0, 0, 32));
        DUE.thrown("limits", argument, () -> used(CALLS - 1).limits(67, 1280));
        DUE.thrown("limits", null, () -> used(CALLS - 1).limits(68, 1280));
        DUE.thrown("octet", index, () -> used(CALLS - 1).octet(1, 32));
        DUE.thrown("check", index, () -> used(CALLS - 1).check(1, 0, 33));
    }

    private static void lastCallTranslates() {
        PacketTranslator x = used(CALLS - 3);
        feed(x, Wire.six(0, 50, 9, NOTHING));
        DUE.is("six", x.six(), 0);
        DUE.bytes("what came out", Wire.part(x, 0), Wire.four(0, 102, 0, 8, 50, NOTHING));
        PacketTranslator y = used(CALLS - 3);
        feed(y, Wire.four(0, 5, 0, 1, 50, Wire.counting(20)));
        DUE.is("four", y.four(), 10);
        DUE.is("its answer", y.size(0), 56);
    }

    private static void onlyDrops() {
        PacketTranslator x = new PacketTranslator();
        for (int k = 1; k < CALLS; k++) {
            DUE.is("four and six of nothing", k % 2 == 0 ? x.four() : x.six(), 1);
        }
        DUE.is("count", x.count(1), CALLS - 1);
    }

    private static void onlyFeeds() {
        PacketTranslator x = new PacketTranslator();
        for (int k = 1; k <= CALLS; k++) {
            DUE.thrown("feed " + k, k <= 120 ? null : IllegalStateException.class, () -> x.feed(1, 2, 3, 4, 5));
        }
        DUE.is("the tape", x.count(11), 2400);
    }

    /** Whole runs of 512 calls, each packet's verdict, parts and bytes against the model's. */
    private static void asTheModel() {
        DUE.about("all of this holds up to the 512th call");
        for (int run = 0; run < 50; run++) {
            PacketTranslator x = new PacketTranslator();
            Model model = new Model();
            int calls = 0;
            for (int k = run; calls + 8 < CALLS; k++) {
                boolean six = k % 3 != 0;
                byte[] packet = six ? sixOf(k) : fourOf(k);
                calls += feed(x, packet) + 3;
                int want = six ? model.six(packet) : model.four(packet);
                DUE.is("the verdict", six ? x.six() : x.four(), want);
                DUE.is("parts", x.parts(), model.out.size());
                DUE.is("the counter", x.count(12), model.counter);
            }
            boolean same = x.parts() == model.out.size();
            for (int k = 0; same && k < model.out.size(); k++) {
                same = Arrays.equals(Wire.part(x, k), model.out.get(k));
            }
            DUE.is("what came out last", same, true);
        }
    }

    private static byte[] fourOf(int k) {
        return Wire.four(k % 256, k, k % 5 == 0 ? 0x2000 : 0, k % 7, k % 4 == 0 ? 2 : 50, Wire.counting(20 * (k % 3)));
    }

    private static byte[] sixOf(int k) {
        return Wire.six(k % 256, k % 4 == 0 ? 59 : 50, k % 7, Wire.counting(20 * (k % 3)));
    }

    private static void counterOfOneUse() {
        DUE.about("the next of the counter, which goes from 1");
        PacketTranslator x = new PacketTranslator();
        for (int k = 1; k <= CALLS / 3; k++) {
            feed(x, Wire.six(0, 50, 9, NOTHING));
            x.six();
        }
        DUE.is("the highest that 512 calls can reach", x.count(12), 170);
        DUE.is("in the packet", x.octet(0, 4) << 8 | x.octet(0, 5), 170);
    }

    /** Within 512 calls the end is never seen; the sentence holds nevertheless. */
    private static void counterBeginsAnew() {
        DUE.about("which goes from 1 to 65535 and on from 0");
        PacketTranslator x = new PacketTranslator();
        byte[] packet = Wire.six(0, 50, 9, NOTHING);
        for (int k = 1; k <= 65538; k++) {
            feed(x, packet);
            x.six();
            int want = k % 65536;
            if (k < 3 || k > 65533 || k % 1000 == 0) {
                DUE.is("the counter", x.count(12), want);
                DUE.bytes("packet " + k, Wire.part(x, 0), Wire.four(0, want, 0, 8, 50, NOTHING));
            }
        }
        DUE.is("translated", x.count(0), 65538);
    }
}
