/** Promise 8: each sentence of III, V and VII that names a boundary, at it and on both sides of it. */
public final class FourEdgeTest {
    private static final Due DUE = new Due();
    private static final byte[] NOTHING = new byte[0];
    private static final byte[] SENT = Wire.four(0x33, 3, 0, 9, 50, Wire.PEER, Wire.HOST, NOTHING, Wire.counting(6));
    private static final byte[] SENT_SIX = Wire.six(0x33, 50, 9, Wire.known(Wire.PEER), Wire.known(Wire.HOST),
        Wire.counting(6));

    public static void main(String[] args) {
        headerBytes();
        versions();
        headerLengths();
        totalLengths();
        headerSums();
        optionKinds();
        optionLengths();
        fragmentEnds();
        addressRanges();
        routes();
        timesToLive();
        protocols();
        brokenMessages();
        payloads();
        datagramLengths();
        sumsOfZero();
        largeWithDf();
        largeWithoutDf();
        largeFragments();
        pieces();
        classes();
        adjustedToZero();
        inOrder();
        errorSums();
        errorTypes();
        errorCodes();
        errorMtus();
        errorPointers();
        innerHeaders();
        innerAddresses();
        innerMessages();
        innerSums();
        longErrors();
        quotes();
        muteMessages();
        DUE.finish();
    }

    private static int four(byte[] packet) {
        return Wire.four(new PacketTranslator(), packet);
    }

    /** The one packet that comes out. */
    private static byte[] out(byte[] packet) {
        PacketTranslator x = new PacketTranslator();
        DUE.is("four of " + Wire.text(packet), Wire.four(x, packet), 0);
        DUE.is("parts", x.parts(), 1);
        return x.parts() == 1 ? Wire.part(x, 0) : Wire.filled(48, 0);
    }

    private static byte[] plain(int flags, int length) {
        return Wire.four(0, 7, flags, 64, 50, Wire.counting(length));
    }

    // ---- III: malformed ----

    private static void headerBytes() {
        DUE.about("fewer than 20 bytes");
        byte[] packet = plain(0, 0);
        for (int n = 0; n < 20; n++) {
            DUE.is(n + " bytes", four(Wire.slice(packet, 0, n)), 1);
        }
        DUE.is("20 bytes", four(packet), 0);
        DUE.about("bytes behind its total length count nothing");
        DUE.bytes("21 bytes", out(Wire.join(packet, Wire.filled(1, 9))), Wire.six(0, 50, 63, NOTHING));
        DUE.bytes("2400 bytes", out(Wire.join(packet, Wire.filled(2380, 9))), Wire.six(0, 50, 63, NOTHING));
    }

    private static void versions() {
        DUE.about("version not 4");
        for (int version = 0; version < 16; version++) {
            DUE.is("version " + version, four(Wire.fourWith(plain(0, 0), 0, 1, version << 4 | 5)), version == 4 ? 0 : 1);
        }
    }

    private static byte[] withHeader(int header, int payload) {
        return Wire.four(0, 7, 0, 64, 50, Wire.HOST, Wire.PEER, Wire.filled(header - 20, 1), Wire.counting(payload));
    }

    private static void headerLengths() {
        DUE.about("header length below 20 or beyond the bytes");
        for (int words = 0; words <= 4; words++) {
            DUE.is("header of " + 4 * words, four(Wire.fourWith(plain(0, 8), 0, 1, 0x40 | words)), 1);
        }
        for (int header = 20; header <= 60; header += 4) {
            byte[] packet = withHeader(header, 0);
            DUE.is("header of " + header, four(packet), 0);
            DUE.is("a byte of it is not there", four(Wire.slice(packet, 0, header - 1)), 1);
            DUE.bytes("a byte more", out(withHeader(header, 1)), Wire.six(0, 50, 63, Wire.counting(1)));
        }
    }

    private static void totalLengths() {
        DUE.about("total length below that or beyond the bytes");
        for (int header : new int[] {20, 24, 60}) {
            byte[] packet = withHeader(header, 3);
            for (int total : new int[] {0, header - 1, header + 4, header + 5, 65535}) {
                DUE.is("total length " + total + " of " + (header + 3), four(Wire.fourWith(packet, 2, 2, total)), 1);
            }
            for (int total = header; total <= header + 3; total++) {
                DUE.bytes("total length " + total, out(Wire.fourWith(packet, 2, 2, total)),
                    Wire.six(0, 50, 63, Wire.counting(total - header)));
            }
        }
    }

    private static void headerSums() {
        DUE.about("a header whose SUM is not 65535");
        byte[] packet = withHeader(24, 4);
        int sum = Wire.word(packet, 10);
        DUE.is("one below", four(Wire.with(packet, 10, 2, sum - 1)), 1);
        DUE.is("as it is", four(packet), 0);
        DUE.is("one above", four(Wire.with(packet, 10, 2, sum + 1)), 1);
        DUE.is("another option, which is of the header", four(Wire.with(packet, 23, 1, 0)), 1);
        DUE.is("another payload, which is not", four(Wire.with(packet, 24, 1, 99)), 0);
        // Where the checksum's bits move into the identification, both 0 and 65535 make the SUM 65535.
        byte[] zero = Wire.with(Wire.fourWith(packet, 4, 2, 0), 10, 2, 0);
        zero = Wire.with(zero, 4, 2, Wire.checksum(Wire.slice(zero, 0, 24)));
        DUE.is("0", four(zero), 0);
        DUE.is("1", four(Wire.with(zero, 10, 2, 1)), 1);
        DUE.is("65534", four(Wire.with(zero, 10, 2, 65534)), 1);
        DUE.is("65535", four(Wire.with(zero, 10, 2, 65535)), 0);
    }

    private static int withOptions(String options) {
        return four(Wire.four(0, 0, 0, 64, 50, Wire.HOST, Wire.PEER, Wire.hex(options), Wire.counting(60)));
    }

    private static void optionKinds() {
        DUE.about("0 ends them, 1 is one byte");
        DUE.is("0, then what can't be", withOptions("00 07ff07"), 0);
        DUE.is("1, then what can't be", withOptions("01 07ff07"), 1);
        DUE.is("1 and 0, then what can't be", withOptions("0100 07ff"), 0);
        DUE.is("0 in the last byte", withOptions("01010100"), 0);
        DUE.is("1 in the last byte", withOptions("01010101"), 0);
        DUE.about("an option that has no length byte");
        for (String kind : new String[] {"02", "07", "7f", "80", "83", "89", "ff"}) {
            DUE.is(kind + " in the last byte", withOptions("010101" + kind), 1);
            DUE.is(kind + " in the last but one", withOptions("0101" + kind + "02"), 0);
        }
    }

    private static void optionLengths() {
        DUE.about("others have their length, 2 or more, in the second byte");
        DUE.is("0", withOptions("07000101"), 1);
        DUE.is("1", withOptions("07010101"), 1);
        DUE.is("2", withOptions("07020101"), 0);
        DUE.is("3", withOptions("07030001"), 0);
        DUE.about("or goes beyond the header");
        DUE.is("3 of 4", withOptions("0703ff01"), 0);
        DUE.is("4 of 4", withOptions("0704ffff"), 0);
        DUE.is("5 of 4", withOptions("0705ffff"), 1);
        DUE.is("255 of 4", withOptions("07ffffff"), 1);
        DUE.is("3 of 3", withOptions("010703ff"), 0);
        DUE.is("4 of 3", withOptions("010704ff"), 1);
        DUE.is("2 of 2 behind another", withOptions("07028802"), 0);
        DUE.is("3 of 2 behind another", withOptions("07028803"), 1);
        DUE.is("39 of 40, and one byte", withOptions("0727" + "ff".repeat(37) + "01"), 0);
        DUE.is("40 of 40", withOptions("0728" + "ff".repeat(38)), 0);
        DUE.is("41 of 40", withOptions("0729" + "ff".repeat(38)), 1);
        DUE.is("127 of 40", withOptions("077f" + "ff".repeat(38)), 1);
        DUE.is("128 of 40", withOptions("0780" + "ff".repeat(38)), 1);
    }

    private static void fragmentEnds() {
        DUE.about("a fragment that would end beyond 65535 bytes of payload");
        int[][] ends = {{8191, 7}, {8190, 15}, {8189, 23}, {8037, 1239}, {7895, 2375}};
        for (int[] e : ends) {
            for (int more : new int[] {0, 0x2000}) {
                DUE.is("offset " + e[0] + ", one byte less", four(plain(more | e[0], e[1] - 1)), 0);
                DUE.is("offset " + e[0] + ", to 65535", four(plain(more | e[0], e[1])), 0);
                DUE.is("offset " + e[0] + ", to 65536", four(plain(more | e[0], e[1] + 1)), 1);
            }
        }
        DUE.is("the last offset, no bytes", four(plain(8191, 0)), 0);
        DUE.is("more alone, the longest", four(plain(0x2000, 2380)), 0);
        byte[] split = plain(8037, 1239);
        PacketTranslator x = new PacketTranslator();
        DUE.is("one that is split and ends at 65535", Wire.four(x, split), 0);
        DUE.bytes("its last piece", Wire.slice(Wire.part(x, 1), 40, 55),
            Wire.join(Wire.fragmentHeader(50, 8191, false, 7), Wire.slice(Wire.counting(1239), 1232, 1239)));
    }

    // ---- III: the verdicts behind ----

    private static int between(long source, long target) {
        return four(Wire.four(0, 0, 0, 64, 50, (int) source, (int) target, NOTHING, NOTHING));
    }

    private static int elsewhere(long source, long target) {
        PacketTranslator x = new PacketTranslator();
        x.prefix(0x20010db800000000L, 0, 32);
        return Wire.four(x, Wire.four(0, 0, 0, 64, 50, (int) source, (int) target, NOTHING, NOTHING));
    }

    private static void addressRanges() {
        DUE.about("2 DROPPED: the source is not mappable. 3 DROPPED: the destination is not");
        for (long[] range : AddressEdgeTest.NEVER) {
            for (long a : range) {
                DUE.is("source " + Long.toHexString(a), between(a, Wire.PEER), 2);
                DUE.is("target " + Long.toHexString(a), between(Wire.HOST, a), 3);
                DUE.is("both " + Long.toHexString(a), between(a, a), 2);
                DUE.is("source in another prefix", elsewhere(a, Wire.PEER), 2);
                DUE.is("target in another prefix", elsewhere(Wire.HOST, a), 3);
            }
        }
        for (long[] range : AddressEdgeTest.NOT_IN_WELL_KNOWN) {
            for (long a : range) {
                DUE.is("source " + Long.toHexString(a), between(a, Wire.PEER), 2);
                DUE.is("target " + Long.toHexString(a), between(Wire.HOST, a), 3);
                DUE.is("both in another prefix", elsewhere(a, a), 0);
            }
            DUE.is("before and behind", between(range[0] - 1, range[1] + 1), 0);
        }
        DUE.is("behind 0.255.255.255, before 224.0.0.0", between(0x01000000L, 0xdfffffffL), 0);
        DUE.is("before 127.0.0.0, behind 127.255.255.255", between(0x7effffffL, 0x80000000L), 0);
        DUE.is("before 169.254.0.0, behind 169.254.255.255", between(0xa9fdffffL, 0xa9ff0000L), 0);
    }

    private static void routes() {
        DUE.about("an option 131 or 137 of 3 bytes or more whose third byte is not above its length");
        for (int kind = 130; kind <= 138; kind++) {
            boolean route = kind == 131 || kind == 137;
            String k = Integer.toHexString(kind);
            DUE.is(kind + " of 2", withOptions(k + "02 0000"), 0);
            DUE.is(kind + " of 3, third byte 2", withOptions(k + "03 0200"), route ? 10 : 0);
            DUE.is(kind + " of 3, third byte 3", withOptions(k + "03 0300"), route ? 10 : 0);
            DUE.is(kind + " of 3, third byte 4", withOptions(k + "03 0400"), 0);
            DUE.is(kind + " of 3, third byte 0", withOptions(k + "03 0000"), route ? 10 : 0);
            DUE.is(kind + " of 4, third byte 4", withOptions(k + "04 0400"), route ? 10 : 0);
            DUE.is(kind + " of 4, third byte 5", withOptions(k + "04 0500"), 0);
            DUE.is(kind + " of 3, third byte 127", withOptions(k + "03 7f00"), 0);
            DUE.is(kind + " of 3, third byte 255", withOptions(k + "03 ff00"), 0);
            DUE.is(kind + " of 40, third byte 40", withOptions(k + "28 28" + "00".repeat(37)), route ? 10 : 0);
            DUE.is(kind + " of 40, third byte 41", withOptions(k + "28 29" + "00".repeat(37)), 0);
            DUE.is(kind + " behind the end", withOptions("00" + k + "03 03"), 0);
        }
        DUE.is("one that is gone, and one that is open", withOptions("830304 890303 0000"), 10);
        DUE.is("one that is open, and one that is gone", withOptions("890303 830304 0000"), 10);
        DUE.is("one that is open, and one that is malformed", withOptions("890303 830900 0000"), 1);
    }

    private static byte[] living(int ttl) {
        return Wire.four(0, 7, 0, ttl, 50, NOTHING);
    }

    private static void timesToLive() {
        DUE.about("ANSWERED 11/0: TTL 0 or 1");
        DUE.is("TTL 0", four(living(0)), 10);
        DUE.is("TTL 1", four(living(1)), 10);
        DUE.about("hop limit TTL less 1");
        for (int ttl : new int[] {2, 3, 127, 128, 129, 255}) {
            DUE.bytes("TTL " + ttl, out(living(ttl)), Wire.six(0, 50, ttl - 1, NOTHING));
        }
    }

    private static void protocols() {
        DUE.about("6 DROPPED: protocol 0, 2, 43, 44, 58, 59 or 60");
        int[] wants = {6, -1, 6, 0};
        for (int protocol = 0; protocol < 4; protocol++) {
            int want = wants[protocol];
            DUE.is("protocol " + protocol, four(Wire.four(0, 0, 8, 64, protocol, NOTHING)), want < 0 ? 5 : want);
        }
        for (int protocol : new int[] {42, 45, 57, 61, 254, 255}) {
            DUE.bytes("protocol " + protocol, out(Wire.four(0, 0, 0, 64, protocol, Wire.counting(3))),
                Wire.six(0, protocol, 63, Wire.counting(3)));
        }
        for (int protocol : new int[] {43, 44, 58, 59, 60}) {
            for (int flags : new int[] {0, 0x2000, 1}) {
                DUE.is("protocol " + protocol, four(Wire.four(0, 0, flags, 64, protocol, Wire.counting(32))), 6);
            }
        }
    }

    private static void brokenMessages() {
        DUE.about("5 DROPPED: ICMP with more fragments, or an offset");
        byte[] echo = Wire.message(8, 0, 7, Wire.counting(8));
        int[][] flags = {{0, 0}, {0x4000, 0}, {0x8000, 0}, {0x2000, 5}, {1, 5}, {0x2001, 5}, {0x1000, 5}, {0x1fff, 1}};
        for (int[] f : flags) {
            DUE.is("flags " + Integer.toHexString(f[0]), four(Wire.four(0, 0, f[0], 64, 1, echo)), f[1]);
        }
    }

    private static void payloads() {
        DUE.about("4 DROPPED: a payload below 8 bytes, of TCP below 20");
        byte[] zeros = Wire.filled(30, 0);
        for (int n : new int[] {0, 1, 7}) {
            DUE.is("UDP of " + n, four(Wire.four(0, 0, 0, 64, 17, Wire.slice(zeros, 0, n))), 4);
            DUE.is("ICMP of " + n, four(Wire.four(0, 0, 0, 64, 1, Wire.slice(zeros, 0, n))), 4);
            DUE.is("a first fragment of UDP of " + n, four(Wire.four(0, 0, 0x2000, 64, 17, Wire.slice(zeros, 0, n))), 4);
            DUE.is("a later one", four(Wire.four(0, 0, 1, 64, 17, Wire.slice(zeros, 0, n))), 0);
            DUE.is("another protocol of " + n, four(Wire.four(0, 0, 0, 64, 132, Wire.slice(zeros, 0, n))), 0);
        }
        DUE.is("UDP of 8", four(Wire.four(0, 0, 0, 64, 17, Wire.udpFour(NOTHING))), 0);
        DUE.is("UDP of 9", four(Wire.four(0, 0, 0, 64, 17, Wire.udpFour(Wire.counting(1)))), 0);
        DUE.is("a first fragment of UDP of 8", four(Wire.four(0, 0, 0x2000, 64, 17, Wire.udpFour(NOTHING))), 0);
        DUE.is("ICMP of 8", four(Wire.four(0, 0, 0, 64, 1, Wire.slice(zeros, 0, 8))), 0);
        DUE.is("ICMP of 9", four(Wire.four(0, 0, 0, 64, 1, Wire.slice(zeros, 0, 9))), 0);
        for (int n : new int[] {0, 7, 8, 19, 20, 21}) {
            byte[] segment = Wire.slice(zeros, 0, n);
            DUE.is("TCP of " + n, four(Wire.four(0, 0, 0, 64, 6, segment)), n < 20 ? 4 : 0);
            DUE.is("a first fragment of TCP of " + n, four(Wire.four(0, 0, 0x2000, 64, 6, segment)), n < 20 ? 4 : 0);
            DUE.is("a later one", four(Wire.four(0, 0, 0x2001, 64, 6, segment)), 0);
        }
        byte[] counted = Wire.fourWith(Wire.four(0, 0, 0, 64, 6, zeros), 2, 2, 39);
        DUE.is("TCP of 19, with bytes behind the total length", four(counted), 4);
    }

    private static void datagramLengths() {
        DUE.about("UDP whose length (of no fragment) is not the payload's");
        byte[] udp = Wire.udpFour(Wire.counting(6));
        for (int length : new int[] {0, 8, 13, 14, 15, 65535, 14 + 256}) {
            byte[] told = Wire.with(udp, 4, 2, length);
            DUE.is("14 bytes that tell " + length, four(Wire.four(0, 0, 0, 64, 17, told)), length == 14 ? 0 : 4);
            DUE.is("with DF", four(Wire.four(0, 0, 0x4000, 64, 17, told)), length == 14 ? 0 : 4);
            DUE.is("a first fragment", four(Wire.four(0, 0, 0x2000, 64, 17, told)), 0);
            DUE.is("a last fragment", four(Wire.four(0, 0, 1, 64, 17, told)), 0);
        }
        byte[] behind = Wire.join(Wire.four(0, 0, 0, 64, 17, udp), Wire.filled(1, 1));
        DUE.is("bytes behind the total length", four(behind), 0);
    }

    private static void sumsOfZero() {
        DUE.about("7 DROPPED: UDP with checksum 0 that is a first fragment, or if such are not let");
        byte[] udp = Wire.udpFour(Wire.counting(8));
        int[][] wants = {{0, 0, 1, 0}, {0, 0, 0, 7}, {0, 0x2000, 1, 7}, {0, 0x2000, 0, 7}, {0, 1, 1, 0}, {0, 1, 0, 0},
            {0, 0x2001, 0, 0}, {1, 0, 0, 0}, {1, 0x2000, 0, 0}, {65535, 0, 0, 0}, {65535, 0x2000, 0, 0}, {256, 0, 0, 0}};
        for (int[] w : wants) {
            PacketTranslator x = new PacketTranslator();
            x.ways(true, w[2] == 1);
            DUE.is("checksum " + w[0] + ", flags " + w[1] + (w[2] == 1 ? ", let" : ", not let"),
                Wire.four(x, Wire.four(0, 0, w[1], 64, 17, Wire.with(udp, 6, 2, w[0]))), w[3]);
        }
        DUE.about("UDP with 0, if let: the CHECKSUM of PSEUDO words and payload");
        for (int n : new int[] {0, 1, 2, 3, 1231, 1232, 1233}) {
            for (byte[] data : new byte[][] {Wire.counting(n), Wire.filled(n, 255)}) {
                PacketTranslator x = new PacketTranslator();
                Wire.four(x, Wire.four(0, 0, 0, 64, 17, Wire.with(Wire.udpFour(data), 6, 2, 0)));
                DUE.is("parts of " + n, x.parts(), n > 1232 ? 2 : 1);
                DUE.is("its sum", Wire.word(Wire.part(x, 0), n > 1232 ? 54 : 46), Wire.word(Wire.udpSix(data), 6));
            }
        }
        DUE.about("UDP ADJUSTED from both addresses to both images");
        for (int sum : new int[] {1, 255, 256, 0x7f00, 0xff00, 65535}) {
            // The well-known prefix leaves a sum as it is, right or wrong.
            byte[] told = Wire.with(Wire.udpFour(Wire.filled(6, 0)), 6, 2, sum);
            DUE.is("checksum " + sum, Wire.word(out(Wire.four(0, 0, 0, 64, 17, told)), 46), sum);
        }
    }

    private static void largeWithDf() {
        DUE.about("With DF: ANSWERED 3/4 if that is above MTU6 (its second word: MTU6 less 20)");
        for (int mtu : new int[] {1280, 1281, 1500, 1999, 2000}) {
            PacketTranslator x = new PacketTranslator();
            x.limits(1500, mtu);
            for (int extra : new int[] {40, 48}) {
                int flags = extra == 40 ? 0x4000 : 0x6000;
                for (int length = mtu - 1; length <= mtu; length++) {
                    DUE.is("length " + length + ", MTU6 " + mtu, Wire.four(x, plain(flags, length - extra)), 0);
                    DUE.is("parts", x.parts(), 1);
                    DUE.is("size", x.size(0), length);
                }
                byte[] packet = plain(flags, mtu + 1 - extra);
                DUE.is("length " + (mtu + 1) + ", MTU6 " + mtu, Wire.four(x, packet), 10);
                DUE.bytes("the answer", Wire.part(x, 0), Wire.four(0, 0, 0, 64, 1, 0xc0000201, Wire.HOST, NOTHING,
                    Wire.message(3, 4, mtu - 20, Wire.slice(packet, 0, 28))));
                DUE.is("with an offset", Wire.four(x, plain(0x4001, mtu + 1 - 48)), 9);
                DUE.is("with an offset, one byte less", Wire.four(x, plain(0x4001, mtu - 48)), 0);
            }
        }
    }

    private static void largeWithoutDf() {
        DUE.about("Without DF: above 1280 it is SPLIT");
        for (int mtu : new int[] {1280, 2000}) {
            PacketTranslator x = new PacketTranslator();
            x.limits(1500, mtu);
            for (int length = 1279; length <= 1282; length++) {
                DUE.is("length " + length, Wire.four(x, plain(0, length - 40)), 0);
                DUE.is("parts of " + length, x.parts(), length > 1280 ? 2 : 1);
                DUE.is("the first size", x.size(0), length > 1280 ? 1280 : length);
                DUE.is("the second", x.size(1), length > 1280 ? 48 + length - 40 - 1232 : -1);
            }
        }
    }

    private static void largeFragments() {
        DUE.about("Its length as IPv6: 40, 8 if it is a fragment, and the payload");
        for (int flags : new int[] {0x2000, 1, 0x2001}) {
            PacketTranslator x = new PacketTranslator();
            for (int length = 1279; length <= 1282; length++) {
                DUE.is("length " + length, Wire.four(x, plain(flags, length - 48)), 0);
                DUE.is("parts of " + length, x.parts(), length > 1280 ? 2 : 1);
                DUE.is("the first size", x.size(0), length > 1280 ? 1280 : length);
                DUE.is("the second", x.size(1), length > 1280 ? 48 + length - 1280 : -1);
            }
        }
    }

    private static void pieces() {
        DUE.about("M but of the last one, which has the packet's");
        for (int flags : new int[] {0, 0x2000, 5, 0x2005}) {
            for (int length : new int[] {1241, 2380}) {
                PacketTranslator x = new PacketTranslator();
                byte[] data = Wire.counting(length);
                Wire.four(x, Wire.four(9, 65535, flags, 64, 50, data));
                int offset = flags & 0x1fff;
                DUE.is("parts", x.parts(), 2);
                DUE.bytes("the first piece", Wire.part(x, 0), Wire.six(9, 44, 63,
                    Wire.join(Wire.fragmentHeader(50, offset, true, 65535), Wire.slice(data, 0, 1232))));
                DUE.bytes("the last piece", Wire.part(x, 1), Wire.six(9, 44, 63, Wire.join(
                    Wire.fragmentHeader(50, offset + 154, (flags & 0x2000) != 0, 65535), Wire.slice(data, 1232, length))));
            }
        }
        DUE.about("identification: 16 bits 0 and that of the packet");
        for (int ident : new int[] {0, 1, 0x7fff, 0x8000, 65535}) {
            DUE.is("identification " + ident, Wire.quad(out(Wire.four(0, ident, 1, 64, 50, NOTHING)), 44), ident);
        }
    }

    private static void classes() {
        DUE.about("traffic class the TOS (0, if it is not kept), flow label 0");
        PacketTranslator x = new PacketTranslator();
        for (int tos : new int[] {0, 1, 15, 16, 127, 128, 255}) {
            x.ways(true, true);
            Wire.four(x, Wire.four(tos, 0, 0, 64, 50, NOTHING));
            DUE.is("TOS " + tos, Wire.quad(Wire.part(x, 0), 0), 0x60000000L | (long) tos << 20);
            x.ways(false, true);
            Wire.four(x, Wire.four(tos, 0, 0, 64, 50, NOTHING));
            DUE.is("TOS " + tos + " that is not kept", Wire.quad(Wire.part(x, 0), 0), 0x60000000L);
        }
    }

    /** With this prefix an image's words differ from the address's, so that sums change. */
    private static PacketTranslator changing() {
        PacketTranslator x = new PacketTranslator();
        x.prefix(0x20010db800000000L, 0, 96);
        return x;
    }

    private static byte[] imageThere(int address) {
        return Wire.join(Wire.number(0x20010db800000000L, 8), Wire.number(address & 0xffffffffL, 8));
    }

    /** A segment whose sum over these pseudo words is this one, by its last two bytes. */
    static byte[] segment(int protocol, byte[] pseudo, int field, int sum, int length) {
        byte[] bytes = Wire.with(Wire.with(Wire.filled(length, 0), 4, 2, protocol == 17 ? length : 0), field, 2, sum);
        return Wire.with(bytes, length - 2, 2, Wire.checksum(Wire.join(pseudo, bytes)));
    }

    private static void adjustedToZero() {
        DUE.about("For UDP 0 becomes 65535");
        byte[] host = imageThere(Wire.HOST);
        byte[] peer = imageThere(Wire.PEER);
        for (int protocol : new int[] {17, 6}) {
            int field = protocol == 17 ? 6 : 16;
            for (int sum : new int[] {1, 65534, 65535}) {
                byte[] six = segment(protocol, Wire.pseudoSix(host, peer, protocol, 24), field, sum, 24);
                byte[] four = Wire.transport(protocol, Wire.with(six, field, 2, 0), field, false,
                    Wire.number(Wire.HOST, 4), Wire.number(Wire.PEER, 4));
                PacketTranslator x = changing();
                DUE.is("four", Wire.four(x, Wire.four(0, 0, 0, 64, protocol, four)), 0);
                // 65535 and 0 are one sum: the adjusted one is 0, which UDP alone writes as 65535.
                DUE.is("protocol " + protocol + ", sum " + sum, Wire.word(Wire.part(x, 0), 40 + field),
                    sum == 65535 && protocol == 6 ? 0 : sum);
                if (protocol == 17) {
                    Wire.four(x, Wire.four(0, 0, 0, 64, 17, Wire.with(four, 6, 2, 0)));
                    DUE.is("made anew, sum " + sum, Wire.word(Wire.part(x, 0), 46), sum);
                }
            }
        }
        DUE.about("the checksum ADJUSTED from the type's word to the new one and the PSEUDO words of IPv6");
        for (int sum : new int[] {0, 1, 65534}) {
            byte[] echo = Wire.with(Wire.hex("8000000000000000 0000"), 2, 2, sum);
            echo = Wire.with(echo, 8, 2, Wire.checksum(Wire.join(Wire.pseudoSix(host, peer, 58, 10), echo)));
            byte[] sent = Wire.with(Wire.with(echo, 0, 1, 8), 2, 2, 0);
            sent = Wire.with(sent, 2, 2, Wire.checksum(sent));
            PacketTranslator x = changing();
            Wire.four(x, Wire.four(0, 0, 0, 64, 1, sent));
            DUE.bytes("an echo with sum " + sum, Wire.slice(Wire.part(x, 0), 40, 50), echo);
        }
    }

    private static int typeAndCode(PacketTranslator x) {
        return x.octet(0, 20) << 8 | x.octet(0, 21);
    }

    private static void inOrder() {
        DUE.about("The first of these");
        byte[] open = Wire.hex("83030300");
        byte[] all = Wire.four(0, 0, 0, 0, 2, 0x7f000001, 0x7f000001, open, NOTHING);
        DUE.is("malformed and all the others", four(Wire.with(all, 10, 2, 0)), 1);
        DUE.is("the source and the others", four(all), 2);
        DUE.is("the destination and the others", four(Wire.fourWith(all, 12, 4, Wire.HOST)), 3);
        PacketTranslator x = new PacketTranslator();
        byte[] mapped = Wire.four(0, 0, 0, 0, 2, Wire.HOST, Wire.PEER, open, NOTHING);
        DUE.is("a route and the others", Wire.four(x, mapped), 10);
        DUE.is("its type and code", typeAndCode(x), 0x305);
        DUE.is("TTL 0 and the others", Wire.four(x, Wire.fourWith(mapped, 20, 1, 7)), 10);
        DUE.is("its type and code", typeAndCode(x), 0xb00);
        DUE.is("protocol 2 with an offset", four(Wire.four(0, 0, 1, 64, 2, NOTHING)), 6);
        DUE.is("ICMP with more, of no bytes", four(Wire.four(0, 0, 0x2000, 64, 1, NOTHING)), 5);
        x.ways(true, false);
        byte[] wrong = Wire.filled(1600, 0);
        DUE.is("UDP's length and the checksum", Wire.four(x, Wire.four(0, 0, 0x4000, 64, 17, wrong)), 4);
        DUE.is("the checksum and MTU6", Wire.four(x, Wire.four(0, 0, 0x4000, 64, 17, Wire.with(wrong, 4, 2, 1600))), 7);
        DUE.is("a type and MTU6", Wire.four(x, Wire.four(0, 0, 0x4000, 64, 1, Wire.with(wrong, 0, 1, 5))), 6);
        DUE.is("an error's sum and MTU6", Wire.four(x, Wire.four(0, 0, 0x4000, 64, 1, Wire.with(wrong, 0, 1, 3))), 4);
        DUE.is("MTU6 alone", Wire.four(x, Wire.four(0, 0, 0x4000, 64, 1, wrong)), 10);
        DUE.is("an unanswerable route and an unknown protocol", four(Wire.four(0, 0, 1, 64, 2, Wire.HOST, Wire.PEER, open,
            NOTHING)), 9);
    }

    // ---- V ----

    private static byte[] error(int type, int code, long second, byte[] inner) {
        return Wire.four(0, 0, 0, 64, 1, Wire.message(type, code, second, inner));
    }

    private static void errorSums() {
        DUE.about("4 DROPPED, if the SUM of the message is not 65535");
        for (int type : new int[] {3, 11, 12}) {
            for (int odd = 0; odd < 2; odd++) {
                byte[] packet = error(type, 0, 0, Wire.slice(SENT, 0, SENT.length - odd));
                int sum = Wire.word(packet, 22);
                DUE.is("one below", four(Wire.with(packet, 22, 2, sum - 1)), 4);
                DUE.is("as it is", four(packet), 0);
                DUE.is("one above", four(Wire.with(packet, 22, 2, sum + 1)), 4);
                DUE.is("0", four(Wire.with(packet, 22, 2, 0)), 4);
                DUE.is("the last byte", four(Wire.with(packet, packet.length - 1, 1, packet[packet.length - 1] + 1)), 4);
            }
        }
    }

    private static void errorTypes() {
        DUE.about("6 DROPPED: all other types");
        for (int type = 0; type < 256; type++) {
            boolean fine = type == 0 || type == 8 || type == 3 || type == 11 || type == 12;
            DUE.is("type " + type, four(error(type, 0, 0, SENT)), fine ? 0 : 6);
            boolean echo = type == 0 || type == 8;
            DUE.is("type " + type + " with a wrong sum", four(Wire.with(error(type, 0, 0, SENT), 22, 2, 0)),
                echo ? 0 : fine ? 4 : 6);
        }
    }

    private static void becomes(int type, int code, int newType, int newCode, long second) {
        DUE.bytes("error " + type + "/" + code, out(error(type, code, 0, SENT)),
            Wire.six(0, 58, 63, Wire.messageSix(newType, newCode, second, SENT_SIX)));
    }

    private static void errorCodes() {
        DUE.about("3: codes 0, 1, 5, 6, 7, 8, 11, 12: 1/0; 2: 4/1, pointer 6; 3: 1/4; 9, 10, 13, 15: 1/1; 4: 2/0");
        for (int code : new int[] {0, 1, 5, 6, 7, 8, 11, 12}) {
            becomes(3, code, 1, 0, 0);
        }
        becomes(3, 2, 4, 1, 6);
        becomes(3, 3, 1, 4, 0);
        for (int code : new int[] {9, 10, 13, 15}) {
            becomes(3, code, 1, 1, 0);
        }
        becomes(3, 4, 2, 0, 1280);
        DUE.about("12, codes 0, 2: 4/0");
        becomes(12, 0, 4, 0, 0);
        becomes(12, 2, 4, 0, 0);
        DUE.about("8 DROPPED: others of these, codes");
        for (int code = 14; code < 256; code += code == 14 ? 2 : 1) {
            DUE.is("3/" + code, four(error(3, code, 0, SENT)), 8);
        }
        for (int code = 1; code < 256; code += code == 1 ? 2 : 1) {
            DUE.is("12/" + code, four(error(12, code, 0, SENT)), 8);
        }
        DUE.about("11: 3, the code as it is");
        for (int code : new int[] {0, 1, 2, 127, 128, 255}) {
            becomes(11, code, 3, code, 0);
        }
    }

    private static int mtu(int mtu4, int mtu6, int told, int innerTotal) {
        PacketTranslator x = new PacketTranslator();
        x.limits(mtu4, mtu6);
        DUE.is("error 3/4", Wire.four(x, error(3, 4, told, Wire.fourWith(SENT, 2, 2, innerTotal))), 0);
        return x.parts() == 1 ? (int) Wire.quad(Wire.part(x, 0), 44) : -1;
    }

    private static void errorMtus() {
        DUE.about("that of the message, if it is 0 the greatest below the inner packet's total length");
        DUE.is("0, total length 1493", mtu(2000, 2000, 0, 1493), 1512);
        DUE.is("1, total length 1493", mtu(2000, 2000, 1, 1493), 1280);
        DUE.is("0, total length 1492", mtu(2000, 2000, 0, 1492), 1280);
        DUE.is("0, total length 2002", mtu(2000, 2000, 0, 2002), 1512);
        DUE.is("0, total length 2003", mtu(2000, 2000, 0, 2003), 2000);
        DUE.is("0, total length 65535", mtu(2000, 2000, 0, 65535), 2000);
        for (int total : new int[] {20, 67, 68, 69, 70, 296, 297, 508, 509, 1006, 1007}) {
            DUE.is("0, total length " + total, mtu(2000, 2000, 0, total), 1280);
        }
        DUE.about("and 20; not above MTU6");
        for (int told : new int[] {1478, 1479, 1480, 1481, 1482, 32767, 32768, 65515, 65516, 65535}) {
            DUE.is("MTU6 1500, told " + told, mtu(2000, 1500, told, 26), told < 1480 ? told + 20 : 1500);
        }
        DUE.about("nor MTU4 and 20");
        for (int told : new int[] {1399, 1400, 1401, 65535}) {
            DUE.is("MTU4 1400, told " + told, mtu(1400, 2000, told, 26), told < 1400 ? told + 20 : 1420);
        }
        DUE.is("MTU4 and 20 is MTU6", mtu(1480, 1500, 1490, 26), 1500);
        DUE.is("MTU4 and 20 is below MTU6", mtu(1479, 1500, 1490, 26), 1499);
        DUE.is("MTU4 and 20 is above MTU6", mtu(1481, 1500, 1490, 26), 1500);
        DUE.about("not below 1280");
        for (int told : new int[] {1, 1258, 1259, 1260, 1261}) {
            DUE.is("told " + told, mtu(1500, 1500, told, 26), told < 1260 ? 1280 : told + 20);
        }
        for (int mtu4 : new int[] {68, 1259, 1260, 1261}) {
            DUE.is("MTU4 " + mtu4, mtu(mtu4, 1500, 1400, 26), mtu4 < 1260 ? 1280 : mtu4 + 20);
        }
        DUE.is("MTU6 1280", mtu(1500, 1280, 1400, 26), 1280);
        DUE.is("MTU6 1281", mtu(1500, 1281, 1400, 26), 1281);
    }

    private static void errorPointers() {
        DUE.about("pointer 0: 0, 1: 1, 2, 3: 4, 8: 7, 9: 6, 12 to 15: 8, 16 to 19: 24. 8 DROPPED: others");
        int[][] becomes = {{0, 0}, {1, 1}, {2, 4}, {3, 4}, {8, 7}, {9, 6}, {12, 8}, {13, 8}, {14, 8}, {15, 8}, {16, 24},
            {17, 24}, {18, 24}, {19, 24}};
        for (int[] p : becomes) {
            DUE.is("pointer " + p[0], Wire.quad(out(error(12, 0, (long) p[0] << 24 | 0xffffff, SENT)), 44), p[1]);
        }
        for (int pointer : new int[] {4, 5, 6, 7, 10, 11, 20, 21, 127, 128, 255}) {
            DUE.is("pointer " + pointer, four(error(12, 0, (long) pointer << 24, SENT)), 8);
        }
    }

    private static int carrying(byte[] inner) {
        return four(error(3, 1, 0, inner));
    }

    private static void innerHeaders() {
        DUE.about("8 DROPPED: fewer bytes than its header, version not 4, header length below 20, total length below that");
        for (int header : new int[] {20, 24, 60}) {
            byte[] inner = Wire.four(0, 3, 0, 9, 50, Wire.PEER, Wire.HOST, Wire.filled(header - 20, 1), Wire.counting(2));
            DUE.is("none of " + header + " bytes", carrying(NOTHING), 8);
            DUE.is("all but one of " + header + " bytes", carrying(Wire.slice(inner, 0, header - 1)), 8);
            DUE.is(header + " bytes", carrying(Wire.slice(inner, 0, header)), 0);
            DUE.is("one more", carrying(Wire.slice(inner, 0, header + 1)), 0);
            DUE.is("a total length one below", carrying(Wire.with(inner, 2, 2, header - 1)), 8);
            DUE.is("a total length as it", carrying(Wire.with(inner, 2, 2, header)), 0);
            DUE.is("a total length of 65535", carrying(Wire.with(inner, 2, 2, 65535)), 0);
        }
        for (int version = 0; version < 16; version++) {
            DUE.is("version " + version, carrying(Wire.with(SENT, 0, 1, version << 4 | 5)), version == 4 ? 0 : 8);
        }
        for (int words = 0; words < 8; words++) {
            DUE.is("header of " + 4 * words, carrying(Wire.with(SENT, 0, 1, 0x40 | words)), words == 5 || words == 6 ? 0 : 8);
        }
        DUE.about("TTL as it is");
        for (int ttl : new int[] {0, 1, 2, 255}) {
            DUE.is("TTL " + ttl, Wire.at(out(error(3, 1, 0, Wire.with(SENT, 8, 1, ttl))), 55), ttl);
        }
        DUE.about("lengths by its total length");
        for (int total : new int[] {20, 25, 26, 27, 65535}) {
            byte[] six = out(error(3, 1, 0, Wire.with(SENT, 2, 2, total)));
            DUE.is("total length " + total, Wire.word(six, 52), total - 20);
            DUE.is("and what there is", six.length, 88 + Math.min(total - 20, 6));
            byte[] fragment = out(error(3, 1, 0, Wire.with(Wire.with(SENT, 2, 2, total), 6, 2, 0x2000)));
            DUE.is("of a fragment", Wire.word(fragment, 52), total - 12);
        }
    }

    private static void innerAddresses() {
        DUE.about("an address that is not mappable");
        for (long[][] ranges : new long[][][] {AddressEdgeTest.NEVER, AddressEdgeTest.NOT_IN_WELL_KNOWN}) {
            for (long[] range : ranges) {
                for (long a : range) {
                    DUE.is("source " + Long.toHexString(a), carrying(Wire.with(SENT, 12, 4, a)), 8);
                    DUE.is("target " + Long.toHexString(a), carrying(Wire.with(SENT, 16, 4, a)), 8);
                }
                long before = range[0] == 0 ? Wire.PEER : range[0] - 1;
                long behind = range[1] == 0xffffffffL ? Wire.HOST : range[1] + 1;
                DUE.is("beside it", carrying(Wire.with(Wire.with(SENT, 12, 4, before), 16, 4, behind)), 0);
            }
        }
        DUE.about("a protocol that III 6 tells");
        for (int protocol = 0; protocol < 256; protocol++) {
            boolean not = protocol == 0 || protocol == 2 || protocol == 43 || protocol == 44 || protocol >= 58 && protocol <= 60;
            DUE.is("protocol " + protocol, carrying(Wire.with(Wire.with(SENT, 9, 1, protocol), 20, 1, 8)), not ? 8 : 0);
        }
    }

    private static void innerMessages() {
        DUE.about("ICMP that is a fragment, has fewer than 4 bytes, or a type but 8, 0");
        byte[] echo = Wire.four(0, 3, 0, 9, 1, Wire.PEER, Wire.HOST, NOTHING, Wire.message(8, 0, 7, Wire.counting(5)));
        for (int n = 20; n <= 28; n++) {
            DUE.is("an echo of " + (n - 20), carrying(Wire.slice(echo, 0, n)), n < 24 ? 8 : 0);
            DUE.is("an echo that tells " + (n - 20), carrying(Wire.with(echo, 2, 2, n)), n < 24 ? 8 : 0);
        }
        int[][] flags = {{0, 0}, {0x4000, 0}, {0x8000, 0}, {0x2000, 8}, {1, 8}, {0x1000, 8}, {0x1fff, 8}};
        for (int[] f : flags) {
            DUE.is("flags " + Integer.toHexString(f[0]), carrying(Wire.with(echo, 6, 2, f[0])), f[1]);
        }
        for (int type = 0; type < 256; type++) {
            DUE.is("type " + type, carrying(Wire.with(echo, 20, 1, type)), type == 0 || type == 8 ? 0 : 8);
        }
        DUE.about("the length being that its total length tells");
        byte[] from = Wire.known(Wire.PEER);
        byte[] to = Wire.known(Wire.HOST);
        byte[] whole = Wire.messageSix(128, 0, 7, Wire.counting(5), from, to);
        for (int n : new int[] {4, 5, 12, 13}) {
            byte[] six = out(error(3, 1, 0, Wire.slice(echo, 0, 20 + n)));
            DUE.bytes("an echo of " + n, Wire.slice(six, 88, six.length), Wire.slice(whole, 0, n));
        }
    }

    private static void innerSums() {
        DUE.about("checksums without an offset ADJUSTED, where both bytes are there (UDP with 0 stays)");
        byte[] from = Wire.number(Wire.PEER, 4);
        byte[] to = Wire.number(Wire.HOST, 4);
        byte[] from6 = imageThere(Wire.PEER);
        byte[] to6 = imageThere(Wire.HOST);
        for (int protocol : new int[] {17, 6}) {
            int field = protocol == 17 ? 6 : 16;
            byte[] segment = protocol == 17 ? Wire.udp(Wire.counting(20), false, from, to) : Wire.tcp(Wire.counting(8), false, from, to);
            byte[] fixed = protocol == 17 ? Wire.udp(Wire.counting(20), true, from6, to6) : Wire.tcp(Wire.counting(8), true, from6, to6);
            byte[] inner = Wire.four(0, 3, 0, 9, protocol, Wire.PEER, Wire.HOST, NOTHING, segment);
            for (int n : new int[] {0, field, field + 1, field + 2, field + 3, 28}) {
                byte[] want = n < field + 2 ? segment : fixed;
                DUE.bytes("protocol " + protocol + ", bytes " + n, innerPayload(Wire.slice(inner, 0, 20 + n), 88), Wire.slice(want, 0, n));
            }
            byte[] later = Wire.fourWith(inner, 6, 2, 1);
            DUE.bytes("with an offset", innerPayload(later, 96), segment);
            DUE.bytes("with more", innerPayload(Wire.fourWith(inner, 6, 2, 0x2000), 96), fixed);
            byte[] told = Wire.fourWith(inner, 2, 2, 20 + field + 1);
            DUE.bytes("a total length that ends within", innerPayload(told, 88), Wire.slice(segment, 0, field + 1));
        }
        byte[] unsummed = Wire.with(Wire.udp(Wire.counting(5), false, from, to), 6, 2, 0);
        DUE.is("UDP with 0", Wire.word(innerPayload(sent(17, unsummed), 88), 6), 0);
        DUE.about("For UDP 0 becomes 65535");
        for (int protocol : new int[] {17, 6}) {
            int field = protocol == 17 ? 6 : 16;
            byte[] six = segment(protocol, Wire.pseudoSix(from6, to6, protocol, 24), field, 0, 24);
            byte[] four = Wire.transport(protocol, six, field, false, from, to);
            DUE.is("inner protocol " + protocol, Wire.word(innerPayload(sent(protocol, four), 88), field), protocol == 17 ? 65535 : 0);
        }
    }

    private static byte[] sent(int protocol, byte[] payload) {
        return Wire.four(0, 3, 0, 9, protocol, Wire.PEER, Wire.HOST, NOTHING, payload);
    }

    private static byte[] innerPayload(byte[] inner, int at) {
        PacketTranslator x = changing();
        DUE.is("an error", Wire.four(x, error(3, 1, 0, inner)), 0);
        return x.parts() == 1 ? Wire.slice(Wire.part(x, 0), at, x.size(0)) : NOTHING;
    }

    private static void longErrors() {
        DUE.about("of that as many bytes as make 1280 in all at most");
        for (int flags : new int[] {0, 0x2000}) {
            int extra = flags == 0 ? 0 : 8;
            for (int length = 1279; length <= 1282; length++) {
                int payload = length - 88 - extra;
                byte[] inner = Wire.four(0, 3, flags, 9, 50, Wire.PEER, Wire.HOST, NOTHING, Wire.counting(payload));
                byte[] fragment = extra == 0 ? NOTHING : Wire.fragmentHeader(50, 0, true, 3);
                byte[] inner6 = Wire.six(0, extra == 0 ? 50 : 44, 9, Wire.known(Wire.PEER), Wire.known(Wire.HOST),
                    Wire.join(fragment, Wire.counting(payload)));
                byte[] want = Wire.slice(inner6, 0, Math.min(inner6.length, 1232));
                for (int df : new int[] {0, 0x4000}) {
                    PacketTranslator x = new PacketTranslator();
                    x.limits(68, 1280);
                    DUE.is("an error of " + length, Wire.four(x, Wire.fourWith(error(3, 1, 0, inner), 6, 2, df)), 0);
                    DUE.is("is not split", x.parts(), 1);
                    DUE.bytes("its bytes", Wire.part(x, 0), Wire.six(0, 58, 63, Wire.messageSix(1, 0, 0, want)));
                }
            }
        }
        byte[] longest = Wire.four(0, 3, 0x2000, 9, 50, Wire.PEER, Wire.HOST, NOTHING, Wire.counting(2352));
        byte[] longest6 = Wire.with(Wire.six(0, 44, 9, Wire.known(Wire.PEER), Wire.known(Wire.HOST),
            Wire.join(Wire.fragmentHeader(50, 0, true, 3), Wire.counting(1184))), 4, 2, 2360);
        DUE.bytes("the longest", out(error(3, 1, 0, longest)), Wire.six(0, 58, 63, Wire.messageSix(1, 0, 0, longest6)));
    }

    // ---- VII ----

    private static void quotes() {
        DUE.about("the packet's header and 8 bytes of its payload, or what there is of these");
        for (int header : new int[] {20, 24, 60}) {
            for (int n : new int[] {0, 1, 7, 8, 9, 500}) {
                byte[] packet = Wire.four(1, 2, 0x4000, 1, 50, Wire.HOST, Wire.PEER, Wire.filled(header - 20, 1), Wire.counting(n));
                PacketTranslator x = new PacketTranslator();
                DUE.is("four", Wire.four(x, Wire.join(packet, Wire.filled(9, 9))), 10);
                byte[] quoted = Wire.slice(packet, 0, header + Math.min(8, n));
                DUE.bytes("header " + header + ", payload " + n, Wire.part(x, 0), Wire.four(0, 0, 0, 64, 1, 0xc0000201,
                    Wire.HOST, NOTHING, Wire.message(11, 0, 0, quoted)));
            }
        }
    }

    private static void muteMessages() {
        DUE.about("9 DROPPED, where it would answer a packet with an offset");
        int[][] flags = {{0, 10}, {0x2000, 10}, {0x4000, 10}, {0x8000, 10}, {1, 9}, {0x2001, 9}, {0x1000, 9}, {0x1fff, 9}};
        for (int[] f : flags) {
            DUE.is("flags " + Integer.toHexString(f[0]), four(Wire.four(0, 0, f[0], 1, 50, NOTHING)), f[1]);
        }
        DUE.about("or ICMP that has no byte of payload, or a type but 8, 0 there");
        DUE.is("no byte", four(Wire.four(0, 0, 0, 1, 1, NOTHING)), 9);
        DUE.is("no byte, but one behind", four(Wire.join(Wire.four(0, 0, 0, 1, 1, NOTHING), Wire.hex("08"))), 9);
        for (int type = 0; type < 256; type++) {
            int want = type == 8 || type == 0 ? 10 : 9;
            DUE.is("one byte, type " + type, four(Wire.four(0, 0, 0, 1, 1, Wire.number(type, 1))), want);
            DUE.is("of another protocol", four(Wire.four(0, 0, 0, 1, 58, Wire.number(type, 1))), 10);
        }
        DUE.is("a first fragment of an echo", four(Wire.four(0, 0, 0x2000, 1, 1, Wire.hex("08"))), 10);
        PacketTranslator x = new PacketTranslator();
        byte[] longEcho = Wire.message(0, 0, 0, Wire.counting(1500));
        DUE.is("a long echo", Wire.four(x, Wire.four(0, 0, 0x4000, 64, 1, longEcho)), 10);
    }
}
