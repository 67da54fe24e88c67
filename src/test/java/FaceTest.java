import java.lang.reflect.Constructor;
import java.lang.reflect.Field;
import java.lang.reflect.Method;
import java.lang.reflect.Modifier;
import java.util.Set;
import java.util.TreeSet;

/** Promises 1 to 7, 10 to 13 and 16: the object, its tape, its settings, and how what came out is read. */
public final class FaceTest {
    private static final Due DUE = new Due();
    private static final Class<?> STATE = IllegalStateException.class;
    private static final Class<?> ARGUMENT = IllegalArgumentException.class;
    private static final Class<?> INDEX = IndexOutOfBoundsException.class;

    public static void main(String[] args) {
        shape();
        newObject();
        feed();
        end();
        prefix();
        own();
        limits();
        ways();
        parts();
        octets();
        check();
        counts();
        DUE.finish();
    }

    private static void shape() {
        Set<String> open = new TreeSet<>();
        for (Method m : PacketTranslator.class.getDeclaredMethods()) {
            if (!Modifier.isPrivate(m.getModifiers())) {
                open.add(m.toString().replace("PacketTranslator.", ""));
            }
        }
        for (Field f : PacketTranslator.class.getDeclaredFields()) {
            if (!Modifier.isPrivate(f.getModifiers())) {
                open.add(f.toString().replace("PacketTranslator.", ""));
            }
        }
        for (Constructor<?> c : PacketTranslator.class.getDeclaredConstructors()) {
            open.add(c.toString());
        }
        String throwsState = " throws java.lang.IllegalStateException";
        String throwsArgument = " throws java.lang.IllegalArgumentException";
        String throwsIndex = " throws java.lang.IndexOutOfBoundsException";
        Set<String> face = new TreeSet<>(Set.of("public PacketTranslator()", "public static final int NONE",
            "public int feed(int,int,int,int,int)" + throwsState, "public int end(int)" + throwsArgument,
            "public void prefix(long,long,int)" + throwsArgument, "public void own(int,long,long)",
            "public void limits(int,int)" + throwsArgument, "public void ways(boolean,boolean)", "public int four()",
            "public int six()", "public int parts()", "public int size(int)",
            "public int octet(int,int)" + throwsIndex, "public int check(int,int,int)" + throwsIndex,
            "public long image(int,boolean)", "public long address(long,long)", "public int count(int)"));
        DUE.is("the open members are the document's: " + open, open.equals(face), true);
        DUE.is("the class is public and final", PacketTranslator.class.getModifiers(), Modifier.PUBLIC | Modifier.FINAL);
        DUE.is("NONE", PacketTranslator.NONE, -1);
    }

    private static void newObject() {
        PacketTranslator x = new PacketTranslator();
        for (int what = 0; what <= 12; what++) {
            DUE.is("a new object: count(" + what + ")", x.count(what), 0);
        }
        DUE.is("MTU4", x.count(13), 1500);
        DUE.is("MTU6", x.count(14), 1500);
        DUE.is("P", x.count(15), 96);
        DUE.is("nothing came out", x.parts(), 0);
        DUE.is("size(0)", x.size(0), -1);
        DUE.is("the prefix is the well-known one, above", x.image(Wire.HOST, false), 0x0064ff9b00000000L);
        DUE.is("the prefix is the well-known one, below", x.image(Wire.HOST, true), 0xc0000221L);
        DUE.is("UDP with checksum 0 is let", Wire.four(x, Wire.four(0x28, 0, 0, 64, 17, Wire.hex("0001000200080000"))), 0);
        DUE.is("the class is kept", x.octet(0, 0) << 8 | x.octet(0, 1), 0x6280);
        DUE.is("an answer", Wire.four(x, Wire.four(0, 0, 0, 1, 17, Wire.udpFour(new byte[0]))), 10);
        DUE.bytes("comes from 192.0.2.1", Wire.slice(Wire.part(x, 0), 12, 16), Wire.hex("c0000201"));
        DUE.is("an answer", Wire.six(x, Wire.six(0, 17, 1, Wire.udpSix(new byte[0]))), 10);
        DUE.bytes("comes from 2001:db8::1", Wire.slice(Wire.part(x, 0), 8, 24),
            Wire.hex("20010db8000000000000000000000001"));
    }

    private static void feed() {
        PacketTranslator x = new PacketTranslator();
        DUE.is("feed", x.feed(0x45000028, 0x00010000, 0x40320000, 0xc0000221, 0xc6336402), 20);
        DUE.is("feed", x.feed(0x01020304, -2, 0x80000000, 0x7fffffff, 0x0a0b0c0d), 40);
        x.end(0);
        for (int n = 20; n <= 2400; n += 20) {
            DUE.is("feed up to " + n, x.feed(0, 0, 0, 0, n), n);
        }
        DUE.thrown("feed beyond 2400", STATE, () -> x.feed(1, 2, 3, 4, 5));
        DUE.is("none came", x.count(11), 2400);
        DUE.is("end", x.end(2381), 2381);
        DUE.thrown("feed beyond 2400 by one", STATE, () -> x.feed(1, 2, 3, 4, 5));
        DUE.is("none came", x.count(11), 2381);
        DUE.is("end", x.end(2380), 2380);
        DUE.is("feed up to 2400 once more", x.feed(1, 2, 3, 4, 5), 2400);

        byte[] packet = Wire.four(0, 0, 0, 9, 50, Wire.hex("01020304 fffffffe 80000000 7fffffff 0a0b0c0d"));
        PacketTranslator y = new PacketTranslator();
        y.feed(0x45000028, 0, 0x09320000 | Wire.word(packet, 10), 0xc0000221, 0xc6336402);
        y.feed(0x01020304, -2, 0x80000000, 0x7fffffff, 0x0a0b0c0d);
        DUE.is("what was fed", y.four(), 0);
        DUE.bytes("comes out, the highest byte first", Wire.slice(Wire.part(y, 0), 40, 60), Wire.slice(packet, 20, 40));
    }

    private static void end() {
        PacketTranslator x = new PacketTranslator();
        DUE.is("end(0) of an empty tape", x.end(0), 0);
        DUE.thrown("end(1) of an empty tape", ARGUMENT, () -> x.end(1));
        x.feed(1, 2, 3, 4, 5);
        DUE.thrown("end(-1)", ARGUMENT, () -> x.end(-1));
        DUE.thrown("end of the least number", ARGUMENT, () -> x.end(Integer.MIN_VALUE));
        DUE.thrown("end(21)", ARGUMENT, () -> x.end(21));
        DUE.is("nothing happened", x.count(11), 20);
        DUE.is("end(20)", x.end(20), 20);
        DUE.is("end(7)", x.end(7), 7);
        DUE.is("the tape", x.count(11), 7);
        DUE.thrown("end(8): what was cut off is gone", ARGUMENT, () -> x.end(8));
        DUE.is("feed comes behind", x.feed(1, 2, 3, 4, 5), 27);

        byte[] packet = Wire.four(0, 0, 0, 9, 50, Wire.counting(24));
        PacketTranslator y = new PacketTranslator();
        Wire.feed(y, Wire.slice(packet, 0, 24));
        y.feed((int) Wire.quad(packet, 24), (int) Wire.quad(packet, 28), (int) Wire.quad(packet, 32),
            (int) Wire.quad(packet, 36), (int) Wire.quad(packet, 40));
        DUE.is("a packet put together with end", y.four(), 0);
        DUE.bytes("is whole", Wire.slice(Wire.part(y, 0), 40, 64), Wire.counting(24));
    }

    private static void prefix() {
        PacketTranslator x = new PacketTranslator();
        long high = 0x20010db801220344L;
        for (int bits = -5; bits <= 133; bits++) {
            boolean fine = bits == 32 || bits == 40 || bits == 48 || bits == 56 || bits == 64 || bits == 96;
            int p = bits;
            DUE.thrown("prefix(0, 0, " + bits + ")", fine ? null : ARGUMENT, () -> x.prefix(0, 0, p));
        }
        for (int bits : new int[] {32, 40, 48, 56, 64, 96}) {
            for (int bit = 0; bit < 128; bit++) {
                long h = bit < 64 ? 1L << 63 - bit : 0;
                long l = bit < 64 ? 0 : 1L << 127 - bit;
                boolean fine = bit < bits && (bit < 64 || bit > 71);
                DUE.thrown("prefix of bit " + bit + " with P " + bits, fine ? null : ARGUMENT, () -> x.prefix(h, l, bits));
            }
        }
        x.prefix(high, 0, 64);
        DUE.thrown("a wrong P", ARGUMENT, () -> x.prefix(0, 0, 33));
        DUE.thrown("a wrong bit", ARGUMENT, () -> x.prefix(0, 1, 96));
        DUE.is("P stays", x.count(15), 64);
        DUE.is("the prefix stays", x.image(Wire.HOST, false), high);
    }

    private static void own() {
        PacketTranslator x = new PacketTranslator();
        x.own(0x01020304, 0x1122334455667788L, 0x99aabbccddeeff00L);
        Wire.four(x, Wire.four(0, 0, 0, 1, 17, Wire.udpFour(new byte[0])));
        DUE.bytes("the own IPv4 address", Wire.slice(Wire.part(x, 0), 12, 16), Wire.hex("01020304"));
        Wire.six(x, Wire.six(0, 17, 1, Wire.udpSix(new byte[0])));
        DUE.bytes("the own IPv6 address", Wire.slice(Wire.part(x, 0), 8, 24),
            Wire.hex("112233445566778899aabbccddeeff00"));
        DUE.is("the answer's sum", Wire.sum(Wire.join(Wire.slice(Wire.part(x, 0), 8, 40),
            Wire.number(x.size(0) - 40, 4), Wire.number(58, 4), Wire.slice(Wire.part(x, 0), 40, x.size(0)))), 65535);
    }

    private static void limits() {
        PacketTranslator x = new PacketTranslator();
        int[][] wrong = {{67, 1500}, {2001, 1500}, {1500, 1279}, {1500, 2001}, {0, 0}, {-1, -1},
            {Integer.MIN_VALUE, 1500}, {1500, Integer.MAX_VALUE}};
        for (int[] w : wrong) {
            DUE.thrown("limits(" + w[0] + ", " + w[1] + ")", ARGUMENT, () -> x.limits(w[0], w[1]));
            DUE.is("nothing happened to MTU4", x.count(13), 1500);
            DUE.is("nothing happened to MTU6", x.count(14), 1500);
        }
        for (int[] w : new int[][] {{68, 1280}, {2000, 2000}, {68, 2000}, {2000, 1280}}) {
            DUE.thrown("limits(" + w[0] + ", " + w[1] + ")", null, () -> x.limits(w[0], w[1]));
            DUE.is("MTU4", x.count(13), w[0]);
            DUE.is("MTU6", x.count(14), w[1]);
        }
    }

    private static void ways() {
        PacketTranslator x = new PacketTranslator();
        byte[] unsummed = Wire.four(0xb8, 0, 0, 64, 17, Wire.hex("0001000200080000"));
        byte[] six = Wire.six(0xb8, 17, 64, Wire.udpSix(new byte[0]));
        for (int k = 0; k < 4; k++) {
            boolean kept = (k & 1) != 0;
            boolean let = (k & 2) != 0;
            x.ways(kept, let);
            DUE.is("UDP with checksum 0, let " + let, Wire.four(x, unsummed), let ? 0 : 7);
            if (let) {
                DUE.is("its class, kept " + kept, Wire.quad(Wire.part(x, 0), 0), kept ? 0x6b800000L : 0x60000000L);
            }
            DUE.is("from IPv6", Wire.six(x, six), 0);
            DUE.is("its TOS, kept " + kept, x.octet(0, 1), kept ? 0xb8 : 0);
        }
    }

    private static void parts() {
        PacketTranslator x = new PacketTranslator();
        byte[] plain = Wire.four(0, 0, 0, 64, 50, Wire.counting(10));
        byte[] large = Wire.four(0, 0, 0, 64, 50, Wire.counting(1300));
        byte[] dying = Wire.four(0, 0, 0, 1, 50, Wire.counting(10));
        DUE.is("one", Wire.four(x, plain), 0);
        DUE.is("parts of one", x.parts(), 1);
        DUE.is("size(0)", x.size(0), 50);
        DUE.is("size(1)", x.size(1), -1);
        DUE.is("size(-1)", x.size(-1), -1);
        DUE.is("two", Wire.four(x, large), 0);
        DUE.is("parts of two", x.parts(), 2);
        DUE.is("size(0)", x.size(0), 1280);
        DUE.is("size(1)", x.size(1), 48 + 68);
        DUE.is("size(2)", x.size(2), -1);
        x.feed(1, 2, 3, 4, 5);
        DUE.is("they stay while the tape is fed", x.parts(), 2);
        x.end(0);
        DUE.is("answered", Wire.four(x, dying), 10);
        DUE.is("parts of an answer", x.parts(), 1);
        DUE.is("dropped", x.four(), 1);
        DUE.is("what came out before is gone", x.parts(), 0);
        DUE.is("size(0) of nothing", x.size(0), -1);
        Wire.four(x, plain);
        DUE.is("dropped by six", x.six(), 1);
        DUE.is("what came out before is gone", x.parts(), 0);
        x.limits(68, 1280);
        DUE.is("as many pieces as can be", Wire.six(x, Wire.six(0, 44, 9, Wire.join(Wire.fragmentHeader(50, 0, false, 7),
            Wire.counting(2352)))), 0);
        DUE.is("their number", x.parts(), 49);
        DUE.is("size of the last but one", x.size(47), 68);
        DUE.is("size of the last", x.size(48), 68);
        DUE.is("size of none", x.size(49), -1);
        DUE.is("size of the greatest number", x.size(Integer.MAX_VALUE), -1);
        DUE.is("size of the least number", x.size(Integer.MIN_VALUE), -1);
    }

    private static void octets() {
        PacketTranslator x = new PacketTranslator();
        DUE.thrown("octet of nothing", INDEX, () -> x.octet(0, 0));
        Wire.four(x, Wire.four(0, 0, 0, 64, 50, Wire.hex("00 7f 80 ff")));
        for (int i = 0; i < 4; i++) {
            DUE.is("octet without sign", x.octet(0, 40 + i), new int[] {0, 127, 128, 255}[i]);
        }
        int[][] wrong = {{0, -1}, {0, 44}, {1, 0}, {-1, 0}, {0, Integer.MAX_VALUE}, {0, Integer.MIN_VALUE},
            {Integer.MAX_VALUE, 0}, {Integer.MIN_VALUE, 0}};
        for (int[] w : wrong) {
            DUE.thrown("octet(" + w[0] + ", " + w[1] + ")", INDEX, () -> x.octet(w[0], w[1]));
        }
        Wire.four(x, Wire.four(0, 0, 0, 64, 50, Wire.counting(1300)));
        DUE.is("a byte of the second packet", x.octet(1, 48), Wire.at(Wire.counting(1300), 1232));
        DUE.thrown("behind the first packet's end", INDEX, () -> x.octet(0, 1280));
    }

    private static void check() {
        PacketTranslator x = new PacketTranslator();
        DUE.thrown("check of nothing", INDEX, () -> x.check(0, 0, 0));
        Wire.four(x, Wire.four(0, 0, 0, 64, 50, Wire.hex("0001 f203 f4f5 f6f7 80")));
        DUE.is("check, after RFC 1071", x.check(0, 40, 48), 0x220d);
        DUE.is("check of an odd last byte", x.check(0, 47, 49), 65535 - 0xf780);
        DUE.is("check of one byte", x.check(0, 48, 49), 65535 - 0x8000);
        DUE.is("check of no bytes", x.check(0, 0, 0), 65535);
        DUE.is("check of no bytes at the end", x.check(0, 49, 49), 65535);
        DUE.is("check of all", x.check(0, 0, 49), Wire.checksum(Wire.part(x, 0)));
        int[][] wrong = {{0, 50, 50}, {0, -1, -1}, {0, -1, 3}, {0, 3, 2}, {0, 0, 50}, {1, 0, 0}, {-1, 0, 0},
            {0, Integer.MIN_VALUE, Integer.MAX_VALUE}, {0, 0, Integer.MAX_VALUE}, {0, Integer.MAX_VALUE, 0}};
        for (int[] w : wrong) {
            DUE.thrown("check(" + w[0] + ", " + w[1] + ", " + w[2] + ")", INDEX, () -> x.check(w[0], w[1], w[2]));
        }
        Wire.four(x, Wire.four(0, 0, 0, 64, 50, Wire.counting(1300)));
        DUE.is("check of the second packet", x.check(1, 1, 116),
            Wire.checksum(Wire.slice(Wire.part(x, 1), 1, 116)));
    }

    private static void counts() {
        PacketTranslator x = new PacketTranslator();
        byte[] plain = Wire.six(0, 50, 9, Wire.counting(10));
        DUE.is("six", Wire.six(x, plain), 0);
        DUE.is("the counter", x.count(12), 1);
        DUE.is("translated", x.count(0), 1);
        Wire.six(x, plain);
        DUE.is("the counter", x.count(12), 2);
        DUE.is("translated", x.count(0), 2);
        Wire.four(x, Wire.four(0, 0, 0, 64, 50, Wire.counting(1300)));
        DUE.is("one packet that came out as two", x.count(0), 3);
        x.four();
        x.six();
        x.six();
        DUE.is("malformed", x.count(1), 3);
        Wire.four(x, Wire.four(0, 0, 0, 1, 50, new byte[0]));
        DUE.is("answered", x.count(10), 1);
        Wire.four(x, Wire.four(0, 0, 5, 1, 50, new byte[0]));
        DUE.is("not to be answered", x.count(9), 1);
        DUE.is("the others", x.count(2) + x.count(3) + x.count(4) + x.count(5) + x.count(6) + x.count(7) + x.count(8), 0);
        x.feed(1, 2, 3, 4, 5);
        DUE.is("bytes of the tape", x.count(11), 20);
        x.four();
        DUE.is("the tape is empty then", x.count(11), 0);
        x.feed(1, 2, 3, 4, 5);
        x.six();
        DUE.is("the tape is empty then", x.count(11), 0);
        x.prefix(0, 0, 40);
        DUE.is("P", x.count(15), 40);
        for (int what : new int[] {-1, 16, 17, Integer.MIN_VALUE, Integer.MAX_VALUE}) {
            DUE.is("count(" + what + ")", x.count(what), -1);
        }
    }
}
