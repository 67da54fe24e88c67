/** Promises 4, 14 and 15: images and the addresses they stand for. */
public final class AddressTest {
    private static final Due DUE = new Due();
    private static final int[] LENGTHS = {32, 40, 48, 56, 64, 96};
    private static final long[] PREFIXES = {
        0x20010db800000000L, 0x20010db801000000L, 0x20010db801220000L, 0x20010db801220300L, 0x20010db801220344L,
        0x20010db801220344L};

    public static void main(String[] args) {
        examples();
        mappable();
        addresses();
        wellKnown();
        againstTheModel();
        DUE.finish();
    }

    /** The table of RFC 6052, 2.4, for 192.0.2.33. */
    private static void examples() {
        long[] high = {0x20010db8c0000221L, 0x20010db801c00002L, 0x20010db80122c000L, 0x20010db8012203c0L,
            0x20010db801220344L, 0x20010db801220344L};
        long[] low = {0, 0x0021000000000000L, 0x0002210000000000L, 0x0000022100000000L, 0x00c0000221000000L,
            0xc0000221L};
        PacketTranslator x = new PacketTranslator();
        for (int k = 0; k < 6; k++) {
            x.prefix(PREFIXES[k], 0, LENGTHS[k]);
            String what = "P " + LENGTHS[k];
            DUE.is(what + ": the image above", x.image(0xc0000221, false), high[k]);
            DUE.is(what + ": the image below", x.image(0xc0000221, true), low[k]);
            DUE.is(what + ": the address", x.address(high[k], low[k]), 0xc0000221L);
            for (int bit = 0; bit < 128; bit++) {
                long h = high[k] ^ (bit < 64 ? 1L << 63 - bit : 0);
                long l = low[k] ^ (bit < 64 ? 0 : 1L << 127 - bit);
                int at = LENGTHS[k] == 96 || bit < 64 ? bit - LENGTHS[k] : bit - 8 - LENGTHS[k];
                // The third bit turned makes 224.0.2.33 of it, which is not mappable.
                boolean inAddress = at >= 0 && at < 32 && at != 2 && (bit < 64 || bit > 71);
                long want = inAddress ? 0xc0000221L ^ 1L << 31 - at : -1;
                DUE.is(what + ": the address with bit " + bit + " turned", x.address(h, l), want);
            }
        }
        x.prefix(0x20010db801220344L, 0x00abcdef00000000L, 96);
        DUE.is("the lower half of a prefix of 96", x.image(0x01020304, true), 0x00abcdef01020304L);
        DUE.is("and back", x.address(0x20010db801220344L, 0x00abcdef01020304L), 0x01020304L);
        DUE.is("without it", x.address(0x20010db801220344L, 0x01020304L), -1);
    }

    private static void mappable() {
        int[] never = {0, 0x00ffffff, 0x7f000000, 0x7fffffff, 0xa9fe0000, 0xa9feffff, 0xe0000000, 0xefffffff,
            0xf0000000, 0xffffffff};
        int[] always = {0x01000000, 0x7effffff, 0x80000000, 0xa9fdffff, 0xa9ff0000, 0xdfffffff, 0x09ffffff,
            0x0b000000, 0xac0fffff, 0xac200000, 0xc0a7ffff, 0xc0a90000};
        int[] sometimes = {0x0a000000, 0x0affffff, 0xac100000, 0xac1fffff, 0xc0a80000, 0xc0a8ffff};
        PacketTranslator known = new PacketTranslator();
        PacketTranslator other = new PacketTranslator();
        other.prefix(0x20010db800000000L, 0, 96);
        for (int a : never) {
            mapped(known, a, false);
            mapped(other, a, false);
        }
        for (int a : always) {
            mapped(known, a, true);
            mapped(other, a, true);
        }
        for (int a : sometimes) {
            mapped(known, a, false);
            mapped(other, a, true);
        }
    }

    private static void mapped(PacketTranslator x, int address, boolean want) {
        boolean known = x.image(0x01020304, false) == Wire.WELL_KNOWN;
        long high = known ? Wire.WELL_KNOWN : 0x20010db800000000L;
        String what = Integer.toHexString(address) + (known ? " in the well-known prefix" : " in another prefix");
        DUE.is(what + ": the image above", x.image(address, false), want ? high : 0);
        DUE.is(what + ": the image below", x.image(address, true), want ? address & 0xffffffffL : 0);
        DUE.is(what + ": the address", x.address(high, address & 0xffffffffL), want ? address & 0xffffffffL : -1);
    }

    private static void addresses() {
        PacketTranslator x = new PacketTranslator();
        DUE.is("an address of another prefix", x.address(0x20010db800000000L, 0xc0000221L), -1);
        DUE.is("nothing", x.address(0, 0), -1);
        DUE.is("all ones", x.address(-1, -1), -1);
        DUE.is("the highest that is mappable, without sign", x.address(Wire.WELL_KNOWN, 0xdfffffffL), 0xdfffffffL);
        x.prefix(0, 0, 32);
        DUE.is("a prefix of zeros", x.address(0x01020304, 0), 0x01020304L);
        DUE.is("its image", x.image(0x01020304, false), 0x01020304L);
        DUE.is("0.0.0.0 is not mappable", x.address(0, 0), -1);
    }

    /** Private addresses are shut out of 64:ff9b::/96 alone, not of other prefixes that begin like it. */
    private static void wellKnown() {
        PacketTranslator x = new PacketTranslator();
        x.prefix(Wire.WELL_KNOWN, 0, 32);
        DUE.is("64:ff9b::/32", x.image(0x0a000001, false), 0x0064ff9b0a000001L);
        x.prefix(Wire.WELL_KNOWN, 0, 64);
        DUE.is("64:ff9b::/64", x.image(0x0a000001, true), 0x000a000001000000L);
        x.prefix(Wire.WELL_KNOWN, 0x100000000L, 96);
        DUE.is("64:ff9b::1:0:0/96", x.image(0x0a000001, true), 0x10a000001L);
        x.prefix(Wire.WELL_KNOWN, 0, 96);
        DUE.is("64:ff9b::/96", x.image(0x0a000001, true), 0);
    }

    private static void againstTheModel() {
        PacketTranslator x = new PacketTranslator();
        Model model = new Model();
        java.util.Random dice = new java.util.Random(6052);
        for (int round = 0; round < 3000; round++) {
            int k = dice.nextInt(6);
            model.prefixHigh = PREFIXES[k];
            model.prefixLow = LENGTHS[k] == 96 ? (dice.nextInt() & 0xffffffL) << 32 : 0;
            model.prefixBits = LENGTHS[k];
            x.prefix(model.prefixHigh, model.prefixLow, model.prefixBits);
            int address = dice.nextInt();
            byte[] image = model.image(address);
            boolean fine = model.mappable(address);
            DUE.is("above", x.image(address, false), fine ? Wire.wide(image, 0) : 0);
            DUE.is("below", x.image(address, true), fine ? Wire.wide(image, 8) : 0);
            DUE.is("back", x.address(Wire.wide(image, 0), Wire.wide(image, 8)), fine ? address & 0xffffffffL : -1);
            byte[] odd = Wire.with(image, dice.nextInt(16), 1, dice.nextInt(256));
            DUE.is("an odd one", x.address(Wire.wide(odd, 0), Wire.wide(odd, 8)), model.addressOf(odd));
        }
    }
}
