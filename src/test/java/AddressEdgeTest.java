/** Promises 14 and 15, with II: each range that is not mappable, at both its ends and on both sides of them. */
public final class AddressEdgeTest {
    private static final Due DUE = new Due();
    private static final int[] LENGTHS = {32, 40, 48, 56, 64, 96};
    private static final long HIGH = 0x20010db801220344L;

    /** First and last address of each range; the ends of all addresses have but one side. */
    static final long[][] NEVER = {{0x00000000L, 0x00ffffffL}, {0x7f000000L, 0x7fffffffL}, {0xa9fe0000L, 0xa9feffffL},
        {0xe0000000L, 0xffffffffL}};
    static final long[][] NOT_IN_WELL_KNOWN = {{0x0a000000L, 0x0affffffL}, {0xac100000L, 0xac1fffffL},
        {0xc0a80000L, 0xc0a8ffffL}};

    public static void main(String[] args) {
        neverMappable();
        notInWellKnown();
        almostWellKnown();
        insideRanges();
        passedOver();
        zerosBehind();
        noImage();
        lowerHalves();
        DUE.finish();
    }

    private static void neverMappable() {
        DUE.about("MAPPABLE are IPv4 addresses that are none of 0.x.x.x, 127.x.x.x, 169.254.x.x, and below 224.0.0.0");
        for (int bits : LENGTHS) {
            for (long[] range : NEVER) {
                range(otherPair(bits), range, false);
            }
        }
        for (long[] range : NEVER) {
            range(new Pair(), range, false);
        }
    }

    private static void notInWellKnown() {
        DUE.about("and, if the PREFIX is 64:ff9b::/96, none of 10.x.x.x, 172.16.0.0 .. 172.31.255.255, 192.168.x.x");
        for (long[] range : NOT_IN_WELL_KNOWN) {
            range(new Pair(), range, false);
            range(otherPair(40).prefix(Wire.WELL_KNOWN, 96), range, false);
            for (int bits : LENGTHS) {
                range(otherPair(bits), range, true);
            }
        }
    }

    /** An object, and the model that knows what an image is, mappable or not. */
    private static final class Pair {
        final PacketTranslator x = new PacketTranslator();
        final Model model = new Model();

        Pair prefix(long high, int bits) {
            x.prefix(high, 0, bits);
            model.prefixHigh = high;
            model.prefixBits = bits;
            return this;
        }
    }

    private static Pair otherPair(int bits) {
        return new Pair().prefix(bits < 64 ? HIGH & -1L << 64 - bits : HIGH, bits);
    }

    private static PacketTranslator other(int bits) {
        return otherPair(bits).x;
    }

    private static void range(Pair x, long[] range, boolean mappable) {
        for (long address : new long[] {range[0], range[0] + 1, range[1] - 1, range[1]}) {
            mapped(x, address, mappable);
        }
        if (range[0] > 0) {
            mapped(x, range[0] - 1, true);
        }
        if (range[1] < 0xffffffffL) {
            mapped(x, range[1] + 1, true);
        }
    }

    private static void mapped(Pair pair, long address, boolean mappable) {
        byte[] image = pair.model.image((int) address);
        PacketTranslator x = pair.x;
        String what = Long.toHexString(address) + " with P " + x.count(15);
        DUE.is(what + ": above", x.image((int) address, false), mappable ? Wire.wide(image, 0) : 0);
        DUE.is(what + ": below", x.image((int) address, true), mappable ? Wire.wide(image, 8) : 0);
        DUE.is(what + ": back", x.address(Wire.wide(image, 0), Wire.wide(image, 8)), mappable ? address : -1);
    }

    /** Each bit of the prefix turned, and each other P with the same bits, is another prefix. */
    private static void almostWellKnown() {
        DUE.about("if the PREFIX is 64:ff9b::/96");
        for (int bit = 0; bit < 96; bit += bit == 63 ? 9 : 1) {
            PacketTranslator x = new PacketTranslator();
            long high = bit < 64 ? Wire.WELL_KNOWN ^ 1L << 63 - bit : Wire.WELL_KNOWN;
            long low = bit < 64 ? 0 : 1L << 127 - bit;
            x.prefix(high, low, 96);
            DUE.is("bit " + bit + " turned", x.image(0x0a000001, true), low | 0x0a000001L);
            DUE.is("and back", x.address(high, low | 0xc0a80101L), 0xc0a80101L);
            DUE.is("the image in 64:ff9b::/96", x.address(Wire.WELL_KNOWN, 0x01020304L), -1);
        }
        for (int bits : new int[] {32, 40, 48, 56, 64}) {
            PacketTranslator x = new PacketTranslator();
            x.prefix(Wire.WELL_KNOWN, 0, bits);
            DUE.is("P " + bits, x.address(x.image(0x0a000001, false), x.image(0x0a000001, true)), 0x0a000001L);
        }
    }

    private static void insideRanges() {
        DUE.about("none of 0.x.x.x, 127.x.x.x, 169.254.x.x");
        Pair x = new Pair();
        for (int k = 0; k < 65536; k += 257) {
            mapped(x, 0xa9fe0000L + k, false);
            mapped(x, 0xc0a80000L + k, false);
            mapped(x, 0x7f000000L + (long) k * 256, false);
        }
        for (int b = 0; b < 256; b++) {
            mapped(x, 0xac000000L | b << 16, b < 16 || b > 31);
            mapped(x, 0xa9000000L | b << 16, b != 254);
            mapped(x, 0xc0000000L | b << 16, b != 168);
            mapped(x, (long) b << 24, b != 0 && b != 10 && b != 127 && b < 224);
        }
    }

    private static void passedOver() {
        DUE.about("passing over bits 64 to 71 (0)");
        for (int bits : LENGTHS) {
            PacketTranslator x = other(bits);
            long high = x.image(0xdfffffff, false);
            long low = x.image(0xdfffffff, true);
            DUE.is("bits 64 to 71 with P " + bits, low >>> 56, 0);
            DUE.is("back", x.address(high, low), 0xdfffffffL);
            for (int bit = 56; bit < 64; bit++) {
                DUE.is("a bit of them turned", x.address(high, low | 1L << bit), -1);
            }
        }
    }

    private static void zerosBehind() {
        DUE.about("then 0s");
        int[] behind = {64, 48, 40, 32, 24, 0};
        for (int k = 0; k < 6; k++) {
            PacketTranslator x = other(LENGTHS[k]);
            long high = x.image(0xdfffffff, false);
            long low = x.image(0xdfffffff, true);
            long mask = behind[k] == 64 ? -1L : (1L << behind[k]) - 1;
            DUE.is("bits behind with P " + LENGTHS[k], low & mask, 0);
            DUE.is("the bit before them", behind[k] == 64 ? high & 1 : low >>> behind[k] & 1, 1);
            if (behind[k] > 0) {
                DUE.is("the last bit turned", x.address(high, low | 1), -1);
                DUE.is("the first bit of them turned", x.address(high, low | 1L << behind[k] - 1), -1);
            }
        }
    }

    private static void noImage() {
        DUE.about("The IPv4 address whose image that is; NONE");
        for (int bits : LENGTHS) {
            PacketTranslator x = other(bits);
            long high = x.image(0x01020304, false);
            long low = x.image(0x01020304, true);
            DUE.is("the image with P " + bits, x.address(high, low), 0x01020304L);
            DUE.is("the first bit turned", x.address(high ^ Long.MIN_VALUE, low), -1);
            int last = Math.min(bits, 64) - 1;
            DUE.is("the prefix's last bit above turned", x.address(high ^ 1L << 63 - last, low), -1);
            DUE.is("no bit", x.address(0, 0), -1);
            DUE.is("every bit", x.address(-1, -1), -1);
        }
        PacketTranslator x = new PacketTranslator();
        x.prefix(HIGH, 0, 96);
        DUE.is("the prefix's last bit turned", x.address(HIGH, 0x0000000101020304L), -1);
        DUE.is("the bit behind it turned", x.address(HIGH, 0x0000000081020304L), 0x81020304L);
    }

    private static void lowerHalves() {
        DUE.about("the upper, or the lower, 64 bits; 0 if it is not mappable");
        PacketTranslator x = new PacketTranslator();
        x.prefix(-1, 0x00ffffff00000000L, 96);
        DUE.is("above", x.image(0x01000000, false), -1);
        DUE.is("below", x.image(0x01000000, true), 0x00ffffff01000000L);
        DUE.is("above, not mappable", x.image(0x00ffffff, false), 0);
        DUE.is("below, not mappable", x.image(0x00ffffff, true), 0);
        DUE.is("the highest that is mappable, without sign", x.address(-1, 0x00ffffffdfffffffL), 0xdfffffffL);
        DUE.is("the next", x.address(-1, 0x00ffffffe0000000L), -1);
    }
}
