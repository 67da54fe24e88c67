/** Promises 4 to 7, with II and IX: the settings' boundaries, each at it and on both sides of it. */
public final class SettingEdgeTest {
    private static final Due DUE = new Due();
    private static final Class<?> ARGUMENT = IllegalArgumentException.class;
    private static final int[] LENGTHS = {32, 40, 48, 56, 64, 96};
    private static final byte[] NOTHING = new byte[0];

    public static void main(String[] args) {
        lengths();
        lastBits();
        unusedBits();
        allBits();
        refusedPrefix();
        ownAddresses();
        limitsOfFour();
        limitsOfSix();
        refusedLimits();
        limitsCount();
        waysAtFirst();
        ways();
        DUE.finish();
    }

    private static void lengths() {
        DUE.about("P is none of those told in II");
        for (int p : LENGTHS) {
            PacketTranslator x = new PacketTranslator();
            for (int bits : new int[] {p - 1, p + 1, p - 8 == 32 || p - 8 == 40 || p - 8 == 48 || p - 8 == 56 ? 0 : p - 8,
                -p, p + 128, p + 256, p | Integer.MIN_VALUE}) {
                DUE.thrown("prefix(0, 0, " + bits + ")", ARGUMENT, () -> x.prefix(0, 0, bits));
                DUE.is("P", x.count(15), 96);
            }
            DUE.thrown("prefix(0, 0, " + p + ")", null, () -> x.prefix(0, 0, p));
            DUE.is("P", x.count(15), p);
        }
        for (int bits : new int[] {0, 1, 8, 16, 24, 72, 80, 88, 104, 112, 120, 127, 128, Integer.MAX_VALUE}) {
            DUE.thrown("prefix(0, 0, " + bits + ")", ARGUMENT, () -> new PacketTranslator().prefix(0, 0, bits));
        }
    }

    private static long high(int bit) {
        return bit < 64 ? 1L << 63 - bit : 0;
    }

    private static long low(int bit) {
        return bit < 64 ? 0 : 1L << 127 - bit;
    }

    private static void lastBits() {
        DUE.about("or one of the others is not 0");
        for (int p : LENGTHS) {
            PacketTranslator x = new PacketTranslator();
            DUE.thrown("bit " + p + " with P " + p, ARGUMENT, () -> x.prefix(high(p), low(p), p));
            DUE.thrown("bit 127 with P " + p, ARGUMENT, () -> x.prefix(0, 1, p));
            DUE.thrown("bit " + (p - 1) + " with P " + p, null, () -> x.prefix(high(p - 1), low(p - 1), p));
            DUE.is("it is in the prefix", x.image(0x01020304, p > 64) & (p > 64 ? low(p - 1) : high(p - 1)),
                p > 64 ? low(p - 1) : high(p - 1));
            DUE.thrown("bit 0 with P " + p, null, () -> x.prefix(Long.MIN_VALUE, 0, p));
        }
    }

    private static void unusedBits() {
        DUE.about("or of bits 64 to 71, is not 0");
        for (int bit = 63; bit <= 72; bit++) {
            int b = bit;
            boolean refused = bit >= 64 && bit <= 71;
            DUE.thrown("bit " + bit + " with P 96", refused ? ARGUMENT : null,
                () -> new PacketTranslator().prefix(high(b), low(b), 96));
            DUE.thrown("bit " + bit + " with P 64", bit > 63 ? ARGUMENT : null,
                () -> new PacketTranslator().prefix(high(b), low(b), 64));
        }
    }

    private static void allBits() {
        DUE.about("The PREFIX: the first P bits of these 128");
        long[] high = {0xffffffff00000000L, 0xffffffffff000000L, 0xffffffffffff0000L, 0xffffffffffffff00L, -1, -1};
        PacketTranslator x = new PacketTranslator();
        for (int k = 0; k < 6; k++) {
            long low = LENGTHS[k] == 96 ? 0x00ffffff00000000L : 0;
            x.prefix(high[k], low, LENGTHS[k]);
            // 1.0.0.0 has one bit alone, so that each bit of the image that is not its own is the prefix's.
            long ownHigh = LENGTHS[k] < 64 ? 0x01000000L >> LENGTHS[k] - 32 : 0;
            long ownLow = LENGTHS[k] == 64 ? 0x0001000000000000L : LENGTHS[k] == 96 ? 0x01000000L : 0;
            DUE.is("above, P " + LENGTHS[k], x.image(0x01000000, false), high[k] | ownHigh);
            DUE.is("below, P " + LENGTHS[k], x.image(0x01000000, true), low | ownLow);
            DUE.is("and back", x.address(high[k] | ownHigh, low | ownLow), 0x01000000);
        }
    }

    private static void refusedPrefix() {
        DUE.about("IllegalArgumentException: the PREFIX stays");
        PacketTranslator x = new PacketTranslator();
        x.prefix(0x20010db801220344L, 0x00abcdef00000000L, 96);
        Object[][] refused = {{0L, 0L, 95}, {1L, 0L, 32}, {0L, 1L << 63, 64}, {0L, 1L << 56, 96}, {0L, 1L << 31, 96}};
        for (Object[] r : refused) {
            DUE.thrown("prefix", ARGUMENT, () -> x.prefix((Long) r[0], (Long) r[1], (Integer) r[2]));
            DUE.is("P", x.count(15), 96);
            DUE.is("above", x.image(0x01020304, false), 0x20010db801220344L);
            DUE.is("below", x.image(0x01020304, true), 0x00abcdef01020304L);
        }
    }

    private static void ownAddresses() {
        DUE.about("The own addresses");
        PacketTranslator x = new PacketTranslator();
        byte[] four = Wire.four(0, 0, 0, 1, 50, NOTHING);
        byte[] six = Wire.six(0, 50, 1, NOTHING);
        long[][] own = {{0, 0, 0}, {-1, -1, -1}, {0x80000000L, Long.MIN_VALUE, 1}, {0x7fffffffL, 1, Long.MAX_VALUE}};
        for (long[] o : own) {
            x.own((int) o[0], o[1], o[2]);
            byte[] address = Wire.join(Wire.number(o[1], 8), Wire.number(o[2], 8));
            Wire.four(x, four);
            DUE.bytes("from IPv4", Wire.part(x, 0), Wire.four(0, 0, 0, 64, 1, (int) o[0], Wire.HOST, NOTHING,
                Wire.message(11, 0, 0, four)));
            Wire.six(x, six);
            DUE.bytes("from IPv6", Wire.part(x, 0), Wire.six(0, 58, 64, address, Wire.known(Wire.HOST),
                Wire.messageSix(3, 0, 0, six, address, Wire.known(Wire.HOST))));
        }
    }

    private static void limitsOfFour() {
        DUE.about("MTU4 (68 .. 2000)");
        for (int mtu : new int[] {67, 68, 69, 1999, 2000, 2001, 0, -68, 68 + 65536, Integer.MIN_VALUE, Integer.MAX_VALUE}) {
            boolean fine = mtu >= 68 && mtu <= 2000;
            PacketTranslator x = new PacketTranslator();
            DUE.thrown("limits(" + mtu + ", 1500)", fine ? null : ARGUMENT, () -> x.limits(mtu, 1500));
            DUE.is("MTU4", x.count(13), fine ? mtu : 1500);
        }
    }

    private static void limitsOfSix() {
        DUE.about("MTU6 (1280 .. 2000)");
        for (int mtu : new int[] {1279, 1280, 1281, 1999, 2000, 2001, 0, -1280, 1280 + 65536, Integer.MIN_VALUE,
            Integer.MAX_VALUE}) {
            boolean fine = mtu >= 1280 && mtu <= 2000;
            PacketTranslator x = new PacketTranslator();
            DUE.thrown("limits(1500, " + mtu + ")", fine ? null : ARGUMENT, () -> x.limits(1500, mtu));
            DUE.is("MTU6", x.count(14), fine ? mtu : 1500);
        }
    }

    private static void refusedLimits() {
        DUE.about("IllegalArgumentException, nothing happens: they are not so");
        PacketTranslator x = new PacketTranslator();
        x.limits(100, 1300);
        for (int[] pair : new int[][] {{67, 1400}, {2001, 1400}, {200, 1279}, {200, 2001}, {67, 1279}, {2001, 2001}}) {
            DUE.thrown("limits(" + pair[0] + ", " + pair[1] + ")", ARGUMENT, () -> x.limits(pair[0], pair[1]));
            DUE.is("MTU4", x.count(13), 100);
            DUE.is("MTU6", x.count(14), 1300);
        }
        DUE.is("a packet of MTU4", Wire.six(x, Wire.six(0, 50, 9, Wire.counting(80))), 0);
        DUE.is("is not split", x.parts(), 1);
        Wire.six(x, Wire.six(0, 50, 9, Wire.counting(81)));
        DUE.is("one byte more is split", x.parts(), 2);
        DUE.is("a packet of MTU6", Wire.four(x, Wire.four(0, 0, 0x4000, 9, 50, Wire.counting(1260))), 0);
        DUE.is("one byte more is answered", Wire.four(x, Wire.four(0, 0, 0x4000, 9, 50, Wire.counting(1261))), 10);
    }

    private static void limitsCount() {
        DUE.about("MTU4 and MTU6, in both ways");
        PacketTranslator x = new PacketTranslator();
        x.limits(2000, 2000);
        DUE.is("2000 as IPv4", Wire.six(x, Wire.six(0, 50, 9, Wire.counting(1980))), 0);
        DUE.is("2001 as IPv4", Wire.six(x, Wire.six(0, 50, 9, Wire.counting(1981))), 10);
        DUE.is("its MTU", Wire.quad(Wire.part(x, 0), 44), 2020);
        DUE.is("2000 as IPv6", Wire.four(x, Wire.four(0, 0, 0x4000, 9, 50, Wire.counting(1960))), 0);
        DUE.is("2001 as IPv6", Wire.four(x, Wire.four(0, 0, 0x4000, 9, 50, Wire.counting(1961))), 10);
        DUE.is("its MTU", Wire.quad(Wire.part(x, 0), 24), 1980);
        x.limits(68, 1280);
        DUE.is("1280 as IPv6", Wire.four(x, Wire.four(0, 0, 0x4000, 9, 50, Wire.counting(1240))), 0);
        DUE.is("1281 as IPv6", Wire.four(x, Wire.four(0, 0, 0x4000, 9, 50, Wire.counting(1241))), 10);
        DUE.is("its MTU", Wire.quad(Wire.part(x, 0), 24), 1260);
        DUE.is("68 as IPv4", Wire.six(x, Wire.six(0, 50, 9, Wire.counting(48))), 0);
        DUE.is("is one", x.parts(), 1);
        DUE.is("69 as IPv4", Wire.six(x, Wire.six(0, 50, 9, Wire.counting(49))), 0);
        DUE.is("are two", x.parts(), 2);
    }

    private static final byte[] UNSUMMED = Wire.four(0xff, 0, 0, 64, 17, Wire.hex("0001000200080000"));
    private static final byte[] FROM_SIX = Wire.six(0xff, 17, 64, Wire.udpSix(NOTHING));

    private static void ways(PacketTranslator x, boolean kept, boolean let) {
        DUE.is("UDP with checksum 0", Wire.four(x, UNSUMMED), let ? 0 : 7);
        DUE.is("UDP with checksum 0 from IPv6", Wire.six(x, Wire.with(FROM_SIX, 46, 2, 0)), 7);
        Wire.four(x, Wire.four(0xff, 0, 0, 64, 50, NOTHING));
        DUE.is("the class", Wire.quad(Wire.part(x, 0), 0), kept ? 0x6ff00000L : 0x60000000L);
        Wire.six(x, FROM_SIX);
        DUE.is("TOS", x.octet(0, 1), kept ? 255 : 0);
    }

    private static void waysAtFirst() {
        DUE.about("At first TOS and class are kept, UDP with checksum 0 is let");
        ways(new PacketTranslator(), true, true);
    }

    private static void ways() {
        DUE.about("Whether TOS and traffic class are kept; whether UDP with checksum 0 is let");
        PacketTranslator x = new PacketTranslator();
        for (int k : new int[] {0, 1, 2, 3, 0, 3, 1, 2}) {
            x.ways((k & 1) != 0, (k & 2) != 0);
            ways(x, (k & 1) != 0, (k & 2) != 0);
        }
    }
}
