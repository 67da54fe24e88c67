/** Promises 1 to 3 and VIII: the tape's boundaries, each at it and on both sides of it. */
public final class TapeEdgeTest {
    private static final Due DUE = new Due();
    private static final Class<?> STATE = IllegalStateException.class;
    private static final Class<?> ARGUMENT = IllegalArgumentException.class;
    private static final Class<?> INDEX = IndexOutOfBoundsException.class;

    public static void main(String[] args) {
        emptyTape();
        nothingCameOut();
        full();
        almostFull();
        refusedFeed();
        ends();
        endsOfFull();
        refusedEnd();
        cutOff();
        emptyThen();
        staleBytes();
        DUE.finish();
    }

    private static int feed(PacketTranslator x) {
        return x.feed(0x01020304, 0x05060708, 0x090a0b0c, 0x0d0e0f10, 0x11121314);
    }

    private static PacketTranslator holding(int bytes) {
        PacketTranslator x = new PacketTranslator();
        Wire.feed(x, Wire.filled(bytes, 0x45));
        return x;
    }

    private static void emptyTape() {
        DUE.about("an empty TAPE");
        PacketTranslator x = new PacketTranslator();
        DUE.is("count(11)", x.count(11), 0);
        DUE.is("end(0)", x.end(0), 0);
        DUE.thrown("end(1)", ARGUMENT, () -> x.end(1));
        DUE.is("the first feed", feed(x), 20);
        DUE.is("four of an empty tape", new PacketTranslator().four(), 1);
        DUE.is("six of an empty tape", new PacketTranslator().six(), 1);
    }

    private static void nothingCameOut() {
        DUE.about("nothing came out");
        PacketTranslator x = new PacketTranslator();
        DUE.is("parts()", x.parts(), 0);
        for (int k = -1; k <= 1; k++) {
            int packet = k;
            DUE.is("size(" + k + ")", x.size(k), -1);
            DUE.thrown("octet(" + k + ", 0)", INDEX, () -> x.octet(packet, 0));
            DUE.thrown("check(" + k + ", 0, 0)", INDEX, () -> x.check(packet, 0, 0));
        }
        for (int what = 0; what <= 10; what++) {
            DUE.is("count(" + what + ")", x.count(what), 0);
        }
    }

    private static void full() {
        DUE.about("The TAPE has at most 2400 bytes");
        PacketTranslator x = new PacketTranslator();
        for (int n = 20; n <= 2400; n += 20) {
            DUE.is("feed", feed(x), n);
        }
        for (int again = 0; again < 3; again++) {
            DUE.thrown("feed of a full tape", STATE, () -> feed(x));
            DUE.is("none comes", x.count(11), 2400);
        }
    }

    private static void almostFull() {
        DUE.about("IllegalStateException, and none comes: it would have more than 2400");
        for (int n : new int[] {2360, 2379, 2380}) {
            PacketTranslator x = holding(n);
            DUE.is("feed behind " + n, feed(x), n + 20);
            DUE.is("count(11)", x.count(11), n + 20);
        }
        for (int n : new int[] {2381, 2382, 2399, 2400}) {
            PacketTranslator x = holding(n);
            DUE.thrown("feed behind " + n, STATE, () -> feed(x));
            DUE.is("count(11)", x.count(11), n);
            x.end(2380);
            DUE.is("feed behind 2380 then", feed(x), 2400);
        }
    }

    /** A packet of all 2400 bytes, or of 2381, is the same behind a refused call. */
    private static void refusedFeed() {
        DUE.about("and none comes");
        for (int n : new int[] {2381, 2400}) {
            PacketTranslator x = new PacketTranslator();
            byte[] data = Wire.counting(n - 20);
            Wire.feed(x, Wire.four(0, 5, 0, 64, 50, data));
            DUE.thrown("feed", STATE, () -> feed(x));
            DUE.is("four", x.four(), 0);
            DUE.is("parts", x.parts(), 2);
            DUE.bytes("the packet is the same", Wire.join(Wire.slice(Wire.part(x, 0), 48, x.size(0)),
                Wire.slice(Wire.part(x, 1), 48, x.size(1))), data);
        }
    }

    private static void ends() {
        DUE.about("n is below 0, or it has not so many");
        PacketTranslator x = holding(40);
        for (int n : new int[] {Integer.MIN_VALUE, -2, -1, 41, 42, 2400, Integer.MAX_VALUE}) {
            DUE.thrown("end(" + n + ") of 40 bytes", ARGUMENT, () -> x.end(n));
            DUE.is("nothing happens", x.count(11), 40);
        }
        for (int n : new int[] {40, 39, 1, 0, 0}) {
            DUE.is("end(" + n + ")", x.end(n), n);
            DUE.is("count(11)", x.count(11), n);
        }
        DUE.thrown("end(1) of an empty tape", ARGUMENT, () -> x.end(1));
        DUE.thrown("end(-1) of an empty tape", ARGUMENT, () -> x.end(-1));
    }

    private static void endsOfFull() {
        DUE.about("The TAPE has its first n bytes alone");
        PacketTranslator x = holding(2400);
        DUE.thrown("end(2401) of a full tape", ARGUMENT, () -> x.end(2401));
        DUE.is("end(2400)", x.end(2400), 2400);
        DUE.is("end(2399)", x.end(2399), 2399);
        DUE.thrown("end(2400) then", ARGUMENT, () -> x.end(2400));
    }

    private static void refusedEnd() {
        DUE.about("IllegalArgumentException, nothing happens");
        byte[] packet = Wire.four(0, 5, 0, 64, 50, Wire.counting(20));
        for (int n : new int[] {-1, 41}) {
            PacketTranslator x = new PacketTranslator();
            Wire.feed(x, packet);
            DUE.thrown("end(" + n + ")", ARGUMENT, () -> x.end(n));
            DUE.is("four", x.four(), 0);
            DUE.bytes("the packet is the same", Wire.part(x, 0), Wire.six(0, 50, 63, Wire.counting(20)));
        }
    }

    private static void cutOff() {
        DUE.about("Twenty bytes come behind the TAPE");
        byte[] packet = Wire.four(0, 5, 0, 64, 50, Wire.counting(39));
        for (int n : new int[] {19, 20, 21, 39}) {
            PacketTranslator x = new PacketTranslator();
            Wire.feed(x, Wire.join(Wire.slice(packet, 0, n), Wire.filled(9, 0xee)));
            x.end(n);
            Wire.feed(x, Wire.slice(packet, n, 59));
            DUE.is("four", x.four(), 0);
            DUE.bytes("the bytes behind " + n, Wire.part(x, 0), Wire.six(0, 50, 63, Wire.counting(39)));
        }
    }

    private static void emptyThen() {
        DUE.about("The TAPE, which is empty then");
        byte[][] packets = {new byte[0], Wire.filled(2400, 0), Wire.four(0, 0, 0, 64, 50, Wire.counting(9)),
            Wire.four(0, 0, 0, 1, 50, Wire.counting(9)), Wire.six(0, 50, 64, Wire.counting(9)),
            Wire.six(0, 50, 1, Wire.counting(9))};
        for (byte[] packet : packets) {
            for (boolean six : new boolean[] {false, true}) {
                PacketTranslator x = new PacketTranslator();
                int verdict = six ? Wire.six(x, packet) : Wire.four(x, packet);
                DUE.is("count(11) behind verdict " + verdict, x.count(11), 0);
                DUE.thrown("end(1)", ARGUMENT, () -> x.end(1));
                DUE.is("the same call once more", six ? x.six() : x.four(), 1);
                DUE.is("feed", feed(x), 20);
            }
        }
    }

    /** What lies behind the tape's end from an earlier packet is no part of a later one. */
    private static void staleBytes() {
        DUE.about("fewer bytes than it tells");
        byte[] four = Wire.four(0, 0, 0, 64, 17, Wire.udpFour(Wire.counting(5)));
        byte[] six = Wire.six(0, 17, 64, Wire.udpSix(Wire.counting(5)));
        byte[] headers = Wire.six(0, 60, 64, Wire.join(Wire.filled(8, 0), Wire.filled(8, 0)));
        PacketTranslator x = new PacketTranslator();
        DUE.is("a whole packet", Wire.four(x, four), 0);
        for (int n : new int[] {0, 19, 20, 32}) {
            DUE.is("its first " + n + " bytes", Wire.four(x, Wire.slice(four, 0, n)), 1);
        }
        DUE.is("a whole packet", Wire.six(x, six), 0);
        for (int n : new int[] {0, 39, 40, 52}) {
            DUE.is("its first " + n + " bytes", Wire.six(x, Wire.slice(six, 0, n)), 1);
        }
        DUE.is("headers", Wire.six(x, Wire.with(headers, 40, 1, 50)), 0);
        DUE.is("no header in the tape", Wire.six(x, Wire.with(Wire.slice(headers, 0, 40), 4, 2, 0)), 1);
    }
}
