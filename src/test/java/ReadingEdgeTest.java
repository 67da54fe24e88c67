import java.util.ArrayList;
import java.util.List;

/** Promises 10 to 13 and 16, with I: the boundaries of what is read, each at it and on both sides of it. */
public final class ReadingEdgeTest {
    private static final Due DUE = new Due();
    private static final Class<?> INDEX = IndexOutOfBoundsException.class;
    private static final byte[] NOTHING = new byte[0];
    private static final int LEAST = Integer.MIN_VALUE;
    private static final int GREATEST = Integer.MAX_VALUE;

    public static void main(String[] args) {
        partsOfEachVerdict();
        sameBehindOthers();
        sizes();
        octets();
        checkOfRanges();
        checkOfNone();
        oddBytes();
        folds();
        checkOfPieces();
        countsOfEachVerdict();
        otherCounts();
        whats();
        DUE.finish();
    }

    /** One packet from IPv4 for each verdict 0 .. 10, with checksum 0 not let. */
    private static byte[][] fours() {
        byte[] sent = Wire.four(0, 0, 0, 9, 50, Wire.PEER, Wire.HOST, NOTHING, NOTHING);
        return new byte[][] {
            Wire.four(0, 0, 0, 64, 50, NOTHING), NOTHING,
            Wire.four(0, 0, 0, 64, 50, 0x7f000001, Wire.PEER, NOTHING, NOTHING),
            Wire.four(0, 0, 0, 64, 50, Wire.HOST, 0x7f000001, NOTHING, NOTHING),
            Wire.four(0, 0, 0, 64, 17, NOTHING), Wire.four(0, 0, 1, 64, 1, NOTHING), Wire.four(0, 0, 0, 64, 2, NOTHING),
            Wire.four(0, 0, 0, 64, 17, Wire.hex("0001000200080000")),
            Wire.four(0, 0, 0, 64, 1, Wire.message(3, 14, 0, sent)), Wire.four(0, 0, 1, 1, 50, NOTHING),
            Wire.four(0, 0, 0, 1, 50, NOTHING)};
    }

    private static byte[][] sixes() {
        byte[] bad = Wire.known(0x7f000001);
        byte[] good = Wire.known(Wire.HOST);
        byte[] offset = Wire.fragmentHeader(58, 1, false, 5);
        return new byte[][] {
            Wire.six(0, 50, 64, NOTHING), NOTHING, Wire.six(0, 50, 64, bad, good, NOTHING),
            Wire.six(0, 50, 64, good, bad, NOTHING), Wire.six(0, 17, 64, NOTHING), Wire.six(0, 44, 64, offset),
            Wire.six(0, 2, 64, NOTHING), Wire.six(0, 17, 64, Wire.hex("0001000200080000")),
            Wire.six(0, 58, 64, Wire.messageSix(1, 5, 0, Wire.six(0, 50, 9, NOTHING))), Wire.six(0, 44, 1, offset),
            Wire.six(0, 50, 1, NOTHING)};
    }

    private static void partsOfEachVerdict() {
        DUE.about("How many packets came out of the latest four() or six() (1 of one that was ANSWERED)");
        byte[] split = Wire.four(0, 0, 0, 64, 50, Wire.counting(1300));
        for (int verdict = 0; verdict <= 10; verdict++) {
            PacketTranslator x = new PacketTranslator();
            x.ways(true, false);
            int want = verdict == 0 || verdict == 10 ? 1 : 0;
            Wire.four(x, split);
            DUE.is("a split packet", x.parts(), 2);
            DUE.is("four", Wire.four(x, fours()[verdict]), verdict);
            DUE.is("parts behind verdict " + verdict, x.parts(), want);
            DUE.is("size(0)", x.size(0) >= 0, want == 1);
            DUE.is("size(1)", x.size(1), -1);
            Wire.four(x, split);
            DUE.is("six", Wire.six(x, sixes()[verdict]), verdict);
            DUE.is("parts behind verdict " + verdict, x.parts(), want);
            DUE.is("size(0)", x.size(0) >= 0, want == 1);
            DUE.is("size(1)", x.size(1), -1);
        }
    }

    /** What an object has read and made before shows in no later packet: each is the same as a new object's. */
    private static void sameBehindOthers() {
        DUE.about("What came out before is gone");
        byte[] sent = Wire.four(0, 0, 0, 9, 50, Wire.PEER, Wire.HOST, NOTHING, Wire.counting(9));
        byte[] sent6 = Wire.six(0, 50, 9, Wire.counting(9));
        byte[] fragment = Wire.fragmentHeader(50, 9, true, 5);
        byte[][] packets = {
            Wire.four(0, 0, 0, 64, 1, Wire.message(3, 1, 0, sent)), Wire.four(0, 0, 0, 64, 1, Wire.message(8, 0, 0, NOTHING)),
            Wire.four(0, 0, 0, 64, 1, Wire.message(11, 0, 0, Wire.fourWith(sent, 6, 2, 0x2003))),
            Wire.four(0, 0, 0, 64, 50, Wire.counting(1300)), Wire.four(0, 5, 0x2000, 64, 50, NOTHING),
            Wire.four(0, 0, 0, 1, 50, Wire.counting(3)), Wire.four(0, 0, 0, 64, 17, Wire.hex("0001000200080000")),
            Wire.six(0, 58, 64, Wire.messageSix(1, 0, 0, sent6)), Wire.six(0, 58, 64, Wire.messageSix(2, 0, 1400, sent6)),
            Wire.six(0, 58, 64, Wire.messageSix(129, 0, 0, NOTHING)), Wire.six(0, 44, 64, fragment),
            Wire.six(0, 50, 64, Wire.counting(1300)), Wire.six(0, 50, 1, Wire.counting(3)), Wire.six(0, 50, 64, NOTHING)};
        byte[][] before = {Wire.four(255, 65535, 0x4000, 255, 50, Wire.filled(1440, 255)),
            Wire.six(255, 44, 255, Wire.join(Wire.fragmentHeader(50, 0, true, -1), Wire.filled(2352, 255))),
            Wire.four(255, 65535, 0, 1, 50, Wire.filled(2380, 255)), Wire.six(255, 43, 1, Wire.filled(2048, 255)),
            Wire.filled(2400, 255)};
        for (byte[] other : before) {
            for (byte[] packet : packets) {
                PacketTranslator fresh = new PacketTranslator();
                PacketTranslator used = new PacketTranslator();
                boolean fromFour = other[0] >> 4 == 4;
                int verdict = fromFour ? Wire.four(used, other) : Wire.six(used, other);
                boolean six = packet[0] >> 4 == 6;
                DUE.is("behind verdict " + verdict, six ? Wire.six(used, packet) : Wire.four(used, packet),
                    six ? Wire.six(fresh, packet) : Wire.four(fresh, packet));
                DUE.is("parts", used.parts(), fresh.parts());
                for (int k = 0; k < fresh.parts(); k++) {
                    DUE.bytes("packet " + k + " of " + Wire.text(packet), Wire.part(used, k), Wire.part(fresh, k));
                }
            }
        }
    }

    /** An object out of which packets of 76, 76 and 28 bytes came. */
    private static PacketTranslator three() {
        PacketTranslator x = new PacketTranslator();
        x.limits(76, 1280);
        Wire.six(x, Wire.six(0, 50, 9, Wire.counting(120)));
        return x;
    }

    private static void sizes() {
        DUE.about("How many bytes packet k has; NONE");
        PacketTranslator x = three();
        DUE.is("parts", x.parts(), 3);
        for (int k : new int[] {-1, 3, 4, 48, 49, 50, LEAST, GREATEST}) {
            DUE.is("size(" + k + ")", x.size(k), -1);
        }
        int[] sizes = {76, 76, 28};
        for (int k = 0; k < 3; k++) {
            DUE.is("size(" + k + ")", x.size(k), sizes[k]);
        }
        Wire.six(x, Wire.six(0, 50, 9, NOTHING));
        DUE.is("a packet without payload", x.size(0), 20);
        DUE.is("the next one", x.size(1), -1);
    }

    private static void octets() {
        DUE.about("Byte i of packet k. IndexOutOfBoundsException: there is none such");
        PacketTranslator x = three();
        byte[] data = Wire.counting(120);
        int[] sizes = {76, 76, 28};
        for (int k = 0; k < 3; k++) {
            int packet = k;
            DUE.is("octet(" + k + ", 0)", x.octet(k, 0), 0x45);
            DUE.is("octet of the payload", x.octet(k, 20), Wire.at(data, 56 * k));
            DUE.is("the last octet", x.octet(k, sizes[k] - 1), Wire.at(data, 56 * k + sizes[k] - 21));
            for (int i : new int[] {-1, sizes[k], sizes[k] + 1, LEAST, GREATEST}) {
                DUE.thrown("octet(" + k + ", " + i + ")", INDEX, () -> x.octet(packet, i));
            }
        }
        for (int k : new int[] {-1, 3, LEAST, GREATEST}) {
            DUE.thrown("octet(" + k + ", 0)", INDEX, () -> x.octet(k, 0));
            DUE.thrown("octet(" + k + ", -1)", INDEX, () -> x.octet(k, -1));
        }
        DUE.about("0 .. 255");
        Wire.six(x, Wire.six(0, 50, 9, Wire.hex("00 01 7f 80 81 fe ff")));
        int[] values = {0, 1, 127, 128, 129, 254, 255};
        for (int i = 0; i < values.length; i++) {
            DUE.is("octet", x.octet(0, 20 + i), values[i]);
        }
    }

    private static void checkOfRanges() {
        DUE.about("IndexOutOfBoundsException: they are not all there");
        PacketTranslator x = three();
        byte[] first = Wire.part(x, 0);
        int[][] there = {{0, 76}, {0, 75}, {1, 76}, {75, 76}, {0, 1}, {0, 20}};
        for (int[] r : there) {
            DUE.is("check(0, " + r[0] + ", " + r[1] + ")", x.check(0, r[0], r[1]),
                Wire.checksum(Wire.slice(first, r[0], r[1])));
        }
        DUE.is("a header's sum", x.check(0, 0, 20), 0);
        int[][] not = {{0, 0, 77}, {0, -1, 76}, {0, -1, 0}, {0, 76, 77}, {0, 2, 1}, {0, 76, 75}, {0, 1, 0}, {0, 77, 76},
            {0, LEAST, 0}, {0, 0, GREATEST}, {0, GREATEST, GREATEST}, {0, LEAST, LEAST}, {0, GREATEST, LEAST},
            {0, LEAST, GREATEST}, {2, 0, 29}, {-1, 0, 0}, {3, 0, 0}, {3, 0, 20}, {LEAST, 0, 0}, {GREATEST, 0, 0}};
        for (int[] r : not) {
            DUE.thrown("check(" + r[0] + ", " + r[1] + ", " + r[2] + ")", INDEX, () -> x.check(r[0], r[1], r[2]));
        }
    }

    private static void checkOfNone() {
        DUE.about("none, from being to, 0 .. its size, are");
        PacketTranslator x = three();
        for (int k = 0; k < 3; k++) {
            int packet = k;
            int size = x.size(k);
            for (int i : new int[] {0, 1, size - 1, size}) {
                DUE.is("check(" + k + ", " + i + ", " + i + ")", x.check(k, i, i), 65535);
            }
            for (int i : new int[] {-1, size + 1, LEAST, GREATEST}) {
                DUE.thrown("check(" + k + ", " + i + ", " + i + ")", INDEX, () -> x.check(packet, i, i));
            }
        }
        x.four();
        DUE.thrown("check(0, 0, 0) where nothing came out", INDEX, () -> x.check(0, 0, 0));
    }

    /** What bytes that come out behind a header of 20 have for a checksum. */
    private static int checkOf(String bytes) {
        PacketTranslator x = new PacketTranslator();
        byte[] data = Wire.hex(bytes);
        Wire.six(x, Wire.six(0, 50, 9, data));
        return x.check(0, 20, 20 + data.length);
    }

    private static void oddBytes() {
        DUE.about("a byte 0 behind an odd last one");
        DUE.is("one byte", checkOf("12"), 0xffff - 0x1200);
        DUE.is("two bytes", checkOf("1234"), 0xffff - 0x1234);
        DUE.is("three bytes", checkOf("123456"), 0xffff - 0x1234 - 0x5600);
        DUE.is("four bytes", checkOf("12345678"), 0xffff - 0x1234 - 0x5678);
        PacketTranslator x = new PacketTranslator();
        Wire.six(x, Wire.six(0, 50, 9, Wire.hex("123456789a")));
        DUE.is("from an odd byte on", x.check(0, 21, 24), 0xffff - 0x3456 - 0x7800);
        DUE.is("from an odd byte to the end", x.check(0, 21, 25), 0xffff - 0x3456 - 0x789a);
    }

    private static void folds() {
        DUE.about("what is above 16 bits added to the rest until nothing is");
        DUE.is("no byte but 0", checkOf("0000"), 65535);
        DUE.is("65535", checkOf("ffff"), 0);
        DUE.is("65534 and 1", checkOf("fffe0001"), 0);
        DUE.is("65535 and 1", checkOf("ffff0001"), 65534);
        DUE.is("65535 twice", checkOf("ffffffff"), 0);
        DUE.is("65536 when it is folded once", checkOf("ffff ffff 0001"), 65534);
        DUE.is("65535 when it is folded once", checkOf("ffff ffff"), 0);
        DUE.is("65535, many times", checkOf("ff".repeat(600)), 0);
        DUE.is("65535, many times, and an odd byte", checkOf("ff".repeat(601)), 65535 - 0xff00);
    }

    private static void checkOfPieces() {
        DUE.about("bytes from .. to - 1 of packet k");
        PacketTranslator x = three();
        List<byte[]> parts = new ArrayList<>(Wire.parts(x));
        for (int k = 0; k < 3; k++) {
            DUE.is("check of all of packet " + k, x.check(k, 0, x.size(k)), Wire.checksum(parts.get(k)));
            DUE.is("check of its payload", x.check(k, 20, x.size(k)),
                Wire.checksum(Wire.slice(parts.get(k), 20, parts.get(k).length)));
        }
    }

    private static void countsOfEachVerdict() {
        DUE.about("How many packets what 0: were TRANSLATED, 1 .. 9: DROPPED so, 10: ANSWERED");
        PacketTranslator x = new PacketTranslator();
        x.ways(true, false);
        int[] want = new int[11];
        for (int verdict = 0; verdict <= 10; verdict++) {
            DUE.is("four", Wire.four(x, fours()[verdict]), verdict);
            want[verdict]++;
            same(x, want);
            DUE.is("six", Wire.six(x, sixes()[verdict]), verdict);
            want[verdict]++;
            same(x, want);
        }
        Wire.four(x, Wire.four(0, 0, 0, 64, 50, Wire.counting(1300)));
        want[0]++;
        same(x, want);
    }

    private static void same(PacketTranslator x, int[] want) {
        for (int what = 0; what <= 10; what++) {
            DUE.is("count(" + what + ")", x.count(what), want[what]);
        }
    }

    private static void otherCounts() {
        DUE.about("11 bytes of the TAPE, 12 the counter, 13 MTU4, 14 MTU6, 15 P");
        PacketTranslator x = new PacketTranslator();
        x.feed(1, 2, 3, 4, 5);
        x.end(19);
        x.limits(68, 2000);
        x.prefix(0, 0, 32);
        int[] want = {19, 0, 68, 2000, 32};
        for (int k = 0; k < want.length; k++) {
            DUE.is("count(" + (11 + k) + ")", x.count(11 + k), want[k]);
        }
    }

    private static void whats() {
        DUE.about("NONE for another what");
        PacketTranslator x = new PacketTranslator();
        for (int what : new int[] {LEAST, -65536, -16, -2, -1, 16, 17, 65536, GREATEST}) {
            DUE.is("count(" + what + ")", x.count(what), -1);
        }
        for (int what = 0; what <= 15; what++) {
            DUE.is("count(" + what + ")", x.count(what), what < 13 ? 0 : what < 15 ? 1500 : 96);
        }
    }
}
