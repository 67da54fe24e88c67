/** Promise 9: each sentence of IV, VI and VII that names a boundary, at it and on both sides of it. */
public final class SixEdgeTest {
    private static final Due DUE = new Due();
    private static final byte[] NOTHING = new byte[0];
    private static final byte[] HOST = Wire.known(Wire.HOST);
    private static final byte[] PEER = Wire.known(Wire.PEER);
    private static final byte[] OWN = Wire.hex("20010db8000000000000000000000001");
    private static final byte[] SENT = Wire.six(0x33, 50, 9, PEER, HOST, Wire.counting(6));
    private static final byte[] SENT_FOUR = Wire.four(0x33, 0, 0, 9, 50, Wire.PEER, Wire.HOST, NOTHING, Wire.counting(6));

    public static void main(String[] args) {
        headerBytes();
        versions();
        payloadLengths();
        headersThere();
        headersWithin();
        secondFragmentHeaders();
        endOfHeaders();
        restOfFragments();
        fragmentEnds();
        addressRanges();
        segmentsLeft();
        hopLimits();
        protocols();
        brokenMessages();
        payloads();
        datagramLengths();
        sumsOfZero();
        dontFragment();
        largeWithDf();
        splits();
        lastPieces();
        fragmentPieces();
        identifications();
        counter();
        classes();
        adjustedToZero();
        inOrder();
        errorSums();
        errorTypes();
        errorCodes();
        errorMtus();
        errorPointers();
        innerHeaders();
        innerAddresses();
        innerMessages();
        innerTotals();
        innerSums();
        longErrors();
        quotes();
        muteMessages();
        DUE.finish();
    }

    private static int six(byte[] packet) {
        return Wire.six(new PacketTranslator(), packet);
    }

    /** The one packet that comes out of a new object. */
    private static byte[] out(byte[] packet) {
        PacketTranslator x = new PacketTranslator();
        DUE.is("six of " + Wire.text(packet), Wire.six(x, packet), 0);
        DUE.is("parts", x.parts(), 1);
        return x.parts() == 1 ? Wire.part(x, 0) : Wire.filled(48, 0);
    }

    private static byte[] plain(int length) {
        return Wire.six(0, 50, 64, Wire.counting(length));
    }

    /** What comes of it where the counter gives 1. */
    private static byte[] plainFour(int length) {
        return Wire.four(0, 1, 0, 63, 50, Wire.counting(length));
    }

    private static byte[] header(int next, int units, int fourth) {
        return Wire.with(Wire.with(Wire.filled(8 + 8 * units, 0), 0, 2, next << 8 | units), 3, 1, fourth);
    }

    private static byte[] fragment(int protocol, int offset, boolean more, byte[] payload) {
        return Wire.six(0, 44, 64, Wire.join(Wire.fragmentHeader(protocol, offset, more, 7), payload));
    }

    // ---- IV: malformed ----

    private static void headerBytes() {
        DUE.about("fewer than 40 bytes");
        for (int n = 0; n < 40; n++) {
            DUE.is(n + " bytes", six(Wire.slice(plain(0), 0, n)), 1);
        }
        DUE.is("40 bytes", six(plain(0)), 0);
        DUE.about("What is behind the payload length counts nothing");
        DUE.bytes("41 bytes", out(Wire.join(plain(0), Wire.filled(1, 9))), plainFour(0));
        DUE.bytes("2400 bytes", out(Wire.join(plain(0), Wire.filled(2360, 9))), plainFour(0));
    }

    private static void versions() {
        DUE.about("version not 6");
        for (int version = 0; version < 16; version++) {
            DUE.is("version " + version, six(Wire.with(plain(0), 0, 1, version << 4)), version == 6 ? 0 : 1);
        }
    }

    private static void payloadLengths() {
        DUE.about("payload length beyond the bytes");
        for (int n : new int[] {1, 8, 1240}) {
            DUE.bytes("one less than " + n, out(Wire.with(plain(n), 4, 2, n - 1)), plainFour(n - 1));
            DUE.bytes("as many as " + n, out(plain(n)), plainFour(n));
            DUE.is("one more than " + n, six(Wire.with(plain(n), 4, 2, n + 1)), 1);
            DUE.is("32768", six(Wire.with(plain(n), 4, 2, 32768)), 1);
            DUE.is("65535", six(Wire.with(plain(n), 4, 2, 65535)), 1);
        }
        DUE.is("a full tape", six(plain(2360)), 10);
        DUE.is("one more than a full tape has", six(Wire.with(plain(2360), 4, 2, 2361)), 1);
    }

    private static void headersThere() {
        DUE.about("8 bytes and 8 for each that their second byte tells; one that is not there with all its bytes");
        for (int kind : new int[] {0, 43, 60}) {
            for (int units : new int[] {0, 1, 2, 127, 128, 254, 255}) {
                byte[] whole = header(50, units, 0);
                String what = "header " + kind + " of " + whole.length;
                DUE.is(what + ", a byte less", six(Wire.six(0, kind, 64, Wire.slice(whole, 0, whole.length - 1))), 1);
                DUE.bytes(what, out(Wire.six(0, kind, 64, whole)), plainFour(0));
                DUE.bytes(what + ", a byte more", out(Wire.six(0, kind, 64, Wire.join(whole, Wire.counting(1)))), plainFour(1));
            }
            for (int n = 0; n < 8; n++) {
                DUE.is(n + " bytes of header " + kind, six(Wire.six(0, kind, 64, Wire.slice(header(50, 0, 0), 0, n))), 1);
            }
        }
        DUE.about("44 fragment: 8 bytes");
        byte[] second = Wire.with(Wire.fragmentHeader(50, 0, false, 7), 1, 1, 255);
        for (int n = 0; n < 8; n++) {
            DUE.is(n + " bytes of a 44", six(Wire.six(0, 44, 64, Wire.slice(second, 0, n))), 1);
        }
        DUE.bytes("8 bytes, whatever its second tells", out(Wire.six(0, 44, 64, second)), Wire.four(0, 7, 0, 63, 50, NOTHING));
        DUE.bytes("9 bytes", out(Wire.six(0, 44, 64, Wire.join(second, Wire.counting(1)))), Wire.four(0, 7, 0, 63, 50, Wire.counting(1)));
    }

    /** Bytes that are there, but behind the payload length. */
    private static void headersWithin() {
        DUE.about("What is behind the payload length counts nothing");
        for (int kind : new int[] {0, 43, 60, 44}) {
            byte[] packet = Wire.six(0, kind, 64, Wire.join(header(50, 0, 0), Wire.counting(4)));
            for (int length : new int[] {0, 1, 7}) {
                DUE.is("header " + kind + " in " + length, six(Wire.with(packet, 4, 2, length)), 1);
            }
            DUE.is("header " + kind + " in 8", six(Wire.with(packet, 4, 2, 8)), 0);
            DUE.is("header " + kind + " in 9", six(Wire.with(packet, 4, 2, 9)), 0);
            byte[] two = Wire.six(0, 60, 64, Wire.join(header(kind, 0, 0), header(50, 0, 0)));
            DUE.is("a second header in 15", six(Wire.with(two, 4, 2, 15)), 1);
            DUE.is("a second header in 16", six(two), 0);
        }
    }

    private static void secondFragmentHeaders() {
        DUE.about("or a second 44");
        byte[] first = Wire.fragmentHeader(44, 0, false, 7);
        byte[] last = Wire.fragmentHeader(50, 0, false, 8);
        DUE.is("one", six(Wire.six(0, 44, 64, last)), 0);
        DUE.is("two", six(Wire.six(0, 44, 64, Wire.join(first, last))), 1);
        DUE.is("two, the first with M", six(Wire.six(0, 44, 64, Wire.join(Wire.fragmentHeader(44, 0, true, 7), last))), 1);
        DUE.is("two, one header between", six(Wire.six(0, 44, 64,
            Wire.join(Wire.fragmentHeader(0, 0, false, 7), header(44, 0, 0), last))), 1);
        DUE.is("one between headers", six(Wire.six(0, 0, 64,
            Wire.join(header(44, 0, 0), Wire.fragmentHeader(43, 0, false, 7), header(60, 0, 0), header(50, 0, 0)))), 0);
        DUE.is("the second behind an offset is the PROTOCOL", six(Wire.six(0, 44, 64,
            Wire.join(Wire.fragmentHeader(44, 1, false, 7), last))), 6);
    }

    private static void endOfHeaders() {
        DUE.about("They end at a 44 with an offset, or where another next header comes");
        for (int next : new int[] {0, 43, 60}) {
            DUE.is("offset 0, then " + next + ", which is not there", six(fragment(next, 0, false, NOTHING)), 1);
            DUE.is("offset 1, then " + next, six(fragment(next, 1, false, NOTHING)), 6);
            DUE.is("offset 8191, then " + next, six(fragment(next, 8191, false, NOTHING)), 6);
            DUE.is("offset 0, then " + next + ", then 50", six(fragment(next, 0, false, header(50, 0, 0))), 0);
        }
        DUE.bytes("behind an offset all is payload", out(fragment(50, 1, false, header(60, 0, 0))),
            Wire.four(0, 7, 1, 63, 50, header(60, 0, 0)));
        DUE.bytes("behind another next header all is payload", out(Wire.six(0, 50, 64, header(60, 0, 0))),
            Wire.four(0, 1, 0, 63, 50, header(60, 0, 0)));
        byte[] chain = NOTHING;
        for (int k = 0; k < 295; k++) {
            chain = Wire.join(header(k == 0 ? 50 : 60, 0, 0), chain);
        }
        DUE.bytes("295 headers", out(Wire.six(0, 60, 64, chain)), plainFour(0));
        DUE.is("one more told", six(Wire.six(0, 60, 64, Wire.with(chain, 294 * 8, 1, 60))), 1);
    }

    private static void restOfFragments() {
        DUE.about("A fragment with M whose rest is no multiple of 8");
        for (int offset : new int[] {0, 1}) {
            for (int n = 0; n <= 17; n++) {
                DUE.is("M, offset " + offset + ", rest " + n, six(fragment(50, offset, true, Wire.counting(n))), n % 8 == 0 ? 0 : 1);
                DUE.is("no M, offset " + offset + ", rest " + n, six(fragment(50, offset, false, Wire.counting(n))), 0);
            }
        }
        byte[] behind = Wire.join(header(50, 0, 0), Wire.counting(8));
        DUE.is("M, a header, and 8", six(fragment(60, 0, true, behind)), 0);
        DUE.is("M, a header, and 7", six(fragment(60, 0, true, Wire.slice(behind, 0, 15))), 1);
        DUE.is("M, bytes behind the payload length", six(Wire.join(fragment(50, 0, true, Wire.counting(8)), Wire.counting(1))), 0);
        DUE.is("M, 9 bytes told as 8", six(Wire.with(fragment(50, 0, true, Wire.counting(9)), 4, 2, 16)), 0);
    }

    private static void fragmentEnds() {
        DUE.about("or that would end beyond 65535");
        for (int[] e : new int[][] {{8191, 7}, {8190, 15}, {8037, 1239}, {7898, 2351}}) {
            DUE.is("offset " + e[0] + ", one byte less", six(fragment(50, e[0], false, Wire.counting(e[1] - 1))), 0);
            DUE.is("offset " + e[0] + ", to 65535", six(fragment(50, e[0], false, Wire.counting(e[1]))), 0);
            DUE.is("offset " + e[0] + ", to 65536", six(fragment(50, e[0], false, Wire.counting(e[1] + 1))), 1);
        }
        DUE.is("M, offset 8191, no bytes", six(fragment(50, 8191, true, NOTHING)), 0);
        DUE.is("M, offset 8191, 8 bytes", six(fragment(50, 8191, true, Wire.counting(8))), 1);
        DUE.is("M, offset 8190, 8 bytes", six(fragment(50, 8190, true, Wire.counting(8))), 0);
        DUE.is("M, offset 8190, 16 bytes", six(fragment(50, 8190, true, Wire.counting(16))), 1);
        PacketTranslator x = new PacketTranslator();
        x.limits(68, 1280);
        DUE.is("one that is split and ends at 65535", Wire.six(x, fragment(50, 8185, false, Wire.counting(55))), 0);
        DUE.bytes("its last piece", Wire.part(x, 1), Wire.four(0, 7, 8191, 63, 50, Wire.slice(Wire.counting(55), 48, 55)));
    }

    // ---- IV: the verdicts behind ----

    private static int between(byte[] source, byte[] target) {
        return six(Wire.six(0, 50, 64, source, target, NOTHING));
    }

    private static int elsewhere(long source, long target) {
        PacketTranslator x = new PacketTranslator();
        x.prefix(0x20010db800000000L, 0, 32);
        byte[] from = Wire.join(Wire.number(0x20010db8L << 32 | source, 8), Wire.filled(8, 0));
        byte[] to = Wire.join(Wire.number(0x20010db8L << 32 | target, 8), Wire.filled(8, 0));
        return Wire.six(x, Wire.six(0, 50, 64, from, to, NOTHING));
    }

    private static void addressRanges() {
        DUE.about("2, 3 DROPPED: as in III, of images");
        for (long[] range : AddressEdgeTest.NEVER) {
            for (long a : range) {
                byte[] bad = Wire.known((int) a);
                DUE.is("source " + Long.toHexString(a), between(bad, PEER), 2);
                DUE.is("target " + Long.toHexString(a), between(HOST, bad), 3);
                DUE.is("both " + Long.toHexString(a), between(bad, bad), 2);
                DUE.is("source in another prefix", elsewhere(a, 0x01020304L), 2);
                DUE.is("target in another prefix", elsewhere(0x01020304L, a), 3);
            }
        }
        for (long[] range : AddressEdgeTest.NOT_IN_WELL_KNOWN) {
            for (long a : range) {
                byte[] bad = Wire.known((int) a);
                DUE.is("source " + Long.toHexString(a), between(bad, PEER), 2);
                DUE.is("target " + Long.toHexString(a), between(HOST, bad), 3);
                DUE.is("both in another prefix", elsewhere(a, a), 0);
            }
            DUE.is("before and behind", between(Wire.known((int) range[0] - 1), Wire.known((int) range[1] + 1)), 0);
        }
        DUE.is("behind 0.255.255.255, before 224.0.0.0", between(Wire.known(0x01000000), Wire.known(0xdfffffff)), 0);
        DUE.is("before 127.0.0.0, behind 127.255.255.255", between(Wire.known(0x7effffff), Wire.known(0x80000000)), 0);
        DUE.is("before 169.254.0.0, behind 169.254.255.255", between(Wire.known(0xa9fdffff), Wire.known(0xa9ff0000)), 0);
        for (int bit = 0; bit < 96; bit++) {
            byte[] other = Wire.with(HOST, bit / 8, 1, HOST[bit / 8] ^ 128 >> bit % 8);
            DUE.is("source with bit " + bit + " turned", between(other, PEER), 2);
            DUE.is("target with bit " + bit + " turned", between(HOST, other), 3);
        }
    }

    private static void segmentsLeft() {
        DUE.about("ANSWERED 4/0, pointer to that byte: a routing header whose fourth byte (segments left) is not 0");
        for (int left : new int[] {0, 1, 127, 128, 255}) {
            DUE.is("segments left " + left, six(Wire.six(0, 43, 64, header(50, 0, left))), left == 0 ? 0 : 10);
            DUE.is("fourth byte of 60", six(Wire.six(0, 60, 64, header(50, 0, left))), 0);
            DUE.is("fourth byte of 0", six(Wire.six(0, 0, 64, header(50, 0, left))), 0);
        }
        byte[] full = Wire.with(Wire.filled(8, 255), 0, 4, 50L << 24 | 0x00ff00L);
        DUE.is("its other bytes", six(Wire.six(0, 43, 64, full)), 0);
        pointed("at once", Wire.six(0, 43, 64, header(50, 0, 1)), 43);
        pointed("behind 8 bytes", Wire.six(0, 60, 64, Wire.join(header(43, 0, 1), header(50, 0, 1))), 51);
        pointed("behind one that is gone", Wire.six(0, 43, 64, Wire.join(header(43, 1, 0), header(50, 0, 9))), 59);
        pointed("the first of two", Wire.six(0, 43, 64, Wire.join(header(43, 1, 1), header(50, 0, 9))), 43);
        pointed("behind 2048 bytes", Wire.six(0, 60, 64, Wire.join(header(43, 255, 0), header(50, 0, 9))), 2091);
        pointed("behind a 44", fragment(43, 0, true, header(50, 0, 9)), 51);
        DUE.is("behind an offset it is the PROTOCOL", six(fragment(43, 1, false, header(50, 0, 9))), 6);
    }

    private static void pointed(String what, byte[] packet, long pointer) {
        PacketTranslator x = new PacketTranslator();
        DUE.is(what, Wire.six(x, packet), 10);
        byte[] quoted = Wire.slice(packet, 0, Math.min(packet.length, 1232));
        DUE.bytes("the answer", Wire.part(x, 0), Wire.six(0, 58, 64, OWN, HOST, Wire.messageSix(4, 0, pointer, quoted, OWN, HOST)));
    }

    private static void hopLimits() {
        DUE.about("ANSWERED 3/0: hop limit 0 or 1");
        DUE.is("hop limit 0", six(Wire.six(0, 50, 0, NOTHING)), 10);
        DUE.is("hop limit 1", six(Wire.six(0, 50, 1, NOTHING)), 10);
        DUE.about("TTL hop limit less 1");
        for (int hops : new int[] {2, 3, 127, 128, 129, 255}) {
            DUE.bytes("hop limit " + hops, out(Wire.six(0, 50, hops, NOTHING)), Wire.four(0, 1, 0, hops - 1, 50, NOTHING));
        }
    }

    private static void protocols() {
        DUE.about("6 DROPPED: PROTOCOL 0, 1, 2, 43, 44, 59 or 60");
        for (int protocol : new int[] {0, 1, 2, 43, 44, 59, 60}) {
            DUE.is("behind an offset " + protocol, six(fragment(protocol, 1, false, Wire.counting(32))), 6);
        }
        for (int protocol : new int[] {1, 2, 59}) {
            DUE.is("PROTOCOL " + protocol, six(Wire.six(0, protocol, 64, Wire.counting(32))), 6);
            DUE.is("of a first fragment", six(fragment(protocol, 0, true, Wire.counting(32))), 6);
        }
        for (int protocol : new int[] {3, 42, 45, 57, 61, 254, 255}) {
            DUE.bytes("PROTOCOL " + protocol, out(Wire.six(0, protocol, 64, Wire.counting(3))),
                Wire.four(0, 1, 0, 63, protocol, Wire.counting(3)));
            DUE.is("behind an offset " + protocol, six(fragment(protocol, 1, false, Wire.counting(32))), 0);
        }
    }

    private static void brokenMessages() {
        DUE.about("5 DROPPED: ICMPv6 (58) with M or an offset");
        byte[] echo = Wire.messageSix(128, 0, 7, Wire.counting(8));
        DUE.is("no 44", six(Wire.six(0, 58, 64, echo)), 0);
        DUE.is("a 44 with neither", six(fragment(58, 0, false, echo)), 0);
        DUE.is("M", six(fragment(58, 0, true, echo)), 5);
        DUE.is("offset 1", six(fragment(58, 1, false, echo)), 5);
        DUE.is("offset 4096", six(fragment(58, 4096, false, echo)), 5);
        DUE.is("M and an offset", six(fragment(58, 1, true, echo)), 5);
        for (int reserved : new int[] {2, 4, 6}) {
            DUE.is("a reserved bit", six(Wire.with(fragment(58, 0, false, echo), 43, 1, reserved)), 0);
        }
    }

    private static void payloads() {
        DUE.about("4 DROPPED: a payload below 8 bytes, of TCP below 20");
        byte[] zeros = Wire.filled(32, 0);
        byte[] echo = Wire.with(zeros, 0, 1, 128);
        for (int n : new int[] {0, 1, 7}) {
            DUE.is("UDP of " + n, six(Wire.six(0, 17, 64, Wire.slice(zeros, 0, n))), 4);
            DUE.is("ICMPv6 of " + n, six(Wire.six(0, 58, 64, Wire.slice(echo, 0, n))), 4);
            DUE.is("UDP of " + n + " with a 44", six(fragment(17, 0, false, Wire.slice(zeros, 0, n))), 4);
            DUE.is("a later fragment", six(fragment(17, 1, false, Wire.slice(zeros, 0, n))), 0);
            DUE.is("another protocol of " + n, six(Wire.six(0, 132, 64, Wire.slice(zeros, 0, n))), 0);
        }
        DUE.is("a first fragment of UDP of 0", six(fragment(17, 0, true, NOTHING)), 4);
        DUE.is("a first fragment of UDP of 8", six(fragment(17, 0, true, Wire.udpSix(NOTHING))), 0);
        DUE.is("UDP of 8", six(Wire.six(0, 17, 64, Wire.udpSix(NOTHING))), 0);
        DUE.is("UDP of 9", six(Wire.six(0, 17, 64, Wire.udpSix(Wire.counting(1)))), 0);
        DUE.is("ICMPv6 of 8", six(Wire.six(0, 58, 64, Wire.slice(echo, 0, 8))), 0);
        DUE.is("ICMPv6 of 9", six(Wire.six(0, 58, 64, Wire.slice(echo, 0, 9))), 0);
        for (int n : new int[] {0, 8, 16, 19, 20, 21, 24}) {
            byte[] segment = Wire.slice(zeros, 0, n);
            DUE.is("TCP of " + n, six(Wire.six(0, 6, 64, segment)), n < 20 ? 4 : 0);
            DUE.is("TCP of " + n + " behind a header", six(Wire.six(0, 60, 64, Wire.join(header(6, 0, 0), segment))), n < 20 ? 4 : 0);
            DUE.is("a first fragment of TCP of " + n, six(fragment(6, 0, true, segment)), n % 8 != 0 ? 1 : n < 20 ? 4 : 0);
            DUE.is("a later one", six(fragment(6, 1, false, segment)), 0);
        }
        DUE.is("TCP of 19, with bytes behind the payload length", six(Wire.with(Wire.six(0, 6, 64, zeros), 4, 2, 19)), 4);
    }

    private static void datagramLengths() {
        DUE.about("UDP whose length (of no fragment) is not the payload's");
        byte[] udp = Wire.udpSix(Wire.counting(8));
        for (int length : new int[] {0, 8, 15, 16, 17, 65535, 16 + 256}) {
            byte[] told = Wire.with(udp, 4, 2, length);
            DUE.is("16 bytes that tell " + length, six(Wire.six(0, 17, 64, told)), length == 16 ? 0 : 4);
            DUE.is("behind a header", six(Wire.six(0, 60, 64, Wire.join(header(17, 0, 0), told))), length == 16 ? 0 : 4);
            DUE.is("a first fragment", six(fragment(17, 0, true, told)), 0);
            DUE.is("a last fragment", six(fragment(17, 1, false, told)), 0);
        }
        DUE.is("bytes behind the payload length", six(Wire.join(Wire.six(0, 17, 64, udp), Wire.filled(1, 1))), 0);
    }

    private static void sumsOfZero() {
        DUE.about("7 DROPPED: UDP with checksum 0");
        byte[] udp = Wire.udpSix(Wire.counting(8));
        for (boolean let : new boolean[] {true, false}) {
            PacketTranslator x = new PacketTranslator();
            x.ways(true, let);
            for (int sum : new int[] {0, 1, 255, 256, 65535}) {
                byte[] told = Wire.with(udp, 6, 2, sum);
                DUE.is("checksum " + sum, Wire.six(x, Wire.six(0, 17, 64, told)), sum == 0 ? 7 : 0);
                DUE.is("a first fragment", Wire.six(x, fragment(17, 0, true, told)), sum == 0 ? 7 : 0);
                DUE.is("a 44 with neither", Wire.six(x, fragment(17, 0, false, told)), sum == 0 ? 7 : 0);
                DUE.is("a later fragment", Wire.six(x, fragment(17, 1, true, told)), 0);
            }
            DUE.is("TCP with 0", Wire.six(x, Wire.six(0, 6, 64, Wire.filled(20, 0))), 0);
        }
    }

    private static void dontFragment() {
        DUE.about("DF: 1 if there is no 44 and that is above 1260");
        for (int total : new int[] {20, 1259, 1260, 1261, 1262, 1500}) {
            byte[] data = Wire.counting(total - 20);
            DUE.bytes("total " + total, out(Wire.six(0, 50, 64, data)),
                Wire.four(0, total > 1260 ? 0 : 1, total > 1260 ? 0x4000 : 0, 63, 50, data));
            DUE.bytes("total " + total + " with a 44", out(fragment(50, 0, false, data)), Wire.four(0, 7, 0, 63, 50, data));
            byte[] behind = Wire.six(0, 60, 64, Wire.join(header(50, 1, 0), data));
            DUE.is("headers count nothing", Wire.word(out(behind), 6), total > 1260 ? 0x4000 : 0);
        }
        byte[] echo = Wire.messageSix(128, 0, 0, Wire.counting(1233));
        DUE.is("an echo of 1261", Wire.word(out(Wire.six(0, 58, 64, echo)), 6), 0x4000);
    }

    private static void largeWithDf() {
        DUE.about("With DF: ANSWERED 2/0 if it is above MTU4 (MTU: MTU4 and 20)");
        for (int mtu : new int[] {1261, 1262, 1500, 1999, 2000}) {
            PacketTranslator x = new PacketTranslator();
            x.limits(mtu, 1500);
            for (int total = Math.max(1261, mtu - 1); total <= mtu; total++) {
                DUE.is("total " + total + ", MTU4 " + mtu, Wire.six(x, plain(total - 20)), 0);
                DUE.is("parts", x.parts(), 1);
                DUE.is("size", x.size(0), total);
            }
            tooBig(x, mtu + 1, mtu);
        }
        for (int mtu : new int[] {68, 1259, 1260}) {
            PacketTranslator x = new PacketTranslator();
            x.limits(mtu, 1500);
            DUE.is("total 1260 has no DF", Wire.six(x, plain(1240)), 0);
            DUE.is("and is split", x.parts() > 1, mtu < 1260);
            tooBig(x, 1261, mtu);
            DUE.is("total 1261 with a 44", Wire.six(x, fragment(50, 0, false, Wire.counting(1241))), 0);
            DUE.is("is split", x.parts() > 1, true);
        }
    }

    private static void tooBig(PacketTranslator x, int total, int mtu) {
        byte[] packet = plain(total - 20);
        int before = x.count(12);
        DUE.is("total " + total + ", MTU4 " + mtu, Wire.six(x, packet), 10);
        DUE.bytes("the answer", Wire.part(x, 0), Wire.six(0, 58, 64, OWN, HOST,
            Wire.messageSix(2, 0, mtu + 20, Wire.slice(packet, 0, Math.min(packet.length, 1232)), OWN, HOST)));
        DUE.is("the counter stays", x.count(12), before);
    }

    private static void splits() {
        DUE.about("Without: above MTU4 it is SPLIT");
        for (int mtu : new int[] {68, 69, 75, 76, 77, 576, 1259}) {
            PacketTranslator x = new PacketTranslator();
            x.limits(mtu, 1500);
            for (int total = mtu - 1; total <= mtu + 1; total++) {
                DUE.is("total " + total + ", MTU4 " + mtu, Wire.six(x, plain(total - 20)), 0);
                DUE.is("parts", x.parts(), total > mtu ? 2 : 1);
                int fit = (mtu - 20) / 8 * 8;
                DUE.is("the first", x.size(0), total > mtu ? 20 + fit : total);
                DUE.is("the second", x.size(1), total > mtu ? total - fit : -1);
            }
        }
        PacketTranslator x = new PacketTranslator();
        x.limits(1500, 1500);
        for (int total = 1499; total <= 1501; total++) {
            DUE.is("with a 44, total " + total, Wire.six(x, fragment(50, 0, false, Wire.counting(total - 20))), 0);
            DUE.is("parts", x.parts(), total > 1500 ? 2 : 1);
            DUE.is("the second", x.size(1), total > 1500 ? 21 : -1);
        }
    }

    private static void lastPieces() {
        DUE.about("as many bytes of payload, a multiple of 8, as fit, the last one what is left, as soon as that fits");
        for (int mtu = 68; mtu <= 76; mtu++) {
            PacketTranslator x = new PacketTranslator();
            x.limits(mtu, 1280);
            int room = mtu - 20;
            int fit = room < 56 ? 48 : 56;
            for (int payload : new int[] {2 * fit, fit + room - 1, fit + room, fit + room + 1, 2 * fit + room, 2 * fit + room + 1}) {
                Wire.six(x, plain(payload));
                // All pieces but the last have the same size; the last begins as soon as the rest has room.
                int whole = 0;
                while (payload - whole * fit > room) {
                    whole++;
                }
                DUE.is("parts of " + payload + ", MTU4 " + mtu, x.parts(), whole + 1);
                for (int k = 0; k < whole; k++) {
                    DUE.is("piece " + k, x.size(k), 20 + fit);
                }
                DUE.is("the last", x.size(whole), 20 + payload - whole * fit);
            }
        }
    }

    private static void fragmentPieces() {
        DUE.about("MF, offset of a 44, of pieces likewise");
        byte[] data = Wire.counting(112);
        for (boolean more : new boolean[] {false, true}) {
            for (int offset : new int[] {0, 1, 8177}) {
                PacketTranslator x = new PacketTranslator();
                x.limits(68, 1280);
                Wire.six(x, fragment(50, offset, more, data));
                DUE.is("parts", x.parts(), 3);
                int last = offset + 12 | (more ? 0x2000 : 0);
                int[] flags = {0x2000 | offset, 0x2000 | offset + 6, last};
                for (int k = 0; k < 3; k++) {
                    DUE.bytes("piece " + k, Wire.part(x, k), Wire.four(0, 7, flags[k], 63, 50,
                        Wire.slice(data, 48 * k, Math.min(112, 48 * k + 48))));
                }
            }
        }
        PacketTranslator x = new PacketTranslator();
        x.limits(68, 1280);
        DUE.is("the longest", Wire.six(x, fragment(50, 0, true, Wire.counting(2352))), 0);
        DUE.is("its pieces", x.parts(), 49);
        for (int k = 0; k < 49; k++) {
            DUE.bytes("piece " + k, Wire.part(x, k), Wire.four(0, 7, 0x2000 | 6 * k, 63, 50,
                Wire.slice(Wire.counting(2352), 48 * k, 48 * k + 48)));
        }
    }

    private static void identifications() {
        DUE.about("the lowest 16 bits of that of a 44");
        for (long ident : new long[] {0, 1, 0x7fff, 0x8000, 0xffff, 0x10000, 0x10001, 0x7fffffffL, 0xffff0000L, 0xffffffffL}) {
            byte[] packet = Wire.six(0, 44, 64, Wire.fragmentHeader(50, 0, false, ident));
            DUE.bytes("identification " + ident, out(packet), Wire.four(0, (int) (ident % 65536), 0, 63, 50, NOTHING));
        }
    }

    private static int next(PacketTranslator x, byte[] packet) {
        Wire.six(x, packet);
        return Wire.word(Wire.part(x, 0), 4);
    }

    private static void counter() {
        DUE.about("0 with DF; else the next of the counter, which goes from 1 (one for all pieces)");
        PacketTranslator x = new PacketTranslator();
        DUE.is("at first", x.count(12), 0);
        DUE.is("the first", next(x, plain(0)), 1);
        DUE.is("of 1260", next(x, plain(1240)), 2);
        DUE.is("of 1261", next(x, plain(1241)), 0);
        DUE.is("the counter", x.count(12), 2);
        DUE.is("answered", Wire.six(x, plain(1500)), 10);
        DUE.is("a 44", next(x, fragment(50, 0, false, NOTHING)), 7);
        DUE.is("dropped", Wire.six(x, NOTHING), 1);
        DUE.is("from IPv4", Wire.four(x, Wire.four(0, 99, 0, 64, 50, Wire.counting(1300))), 0);
        DUE.is("the counter", x.count(12), 2);
        x.limits(68, 1280);
        DUE.is("of pieces", next(x, plain(100)), 3);
        for (int k = 0; k < x.parts(); k++) {
            DUE.is("piece " + k, Wire.word(Wire.part(x, k), 4), 3);
        }
        DUE.is("the counter", x.count(12), 3);
        DUE.is("of an error", next(x, error(1, 0, 0, SENT)), 4);
        DUE.is("of an echo", next(x, Wire.six(0, 58, 64, Wire.messageSix(128, 0, 0, NOTHING))), 5);
        DUE.is("the counter", x.count(12), 5);
        x.prefix(Wire.WELL_KNOWN, 0, 96);
        x.own(1, 2, 3);
        x.ways(false, false);
        DUE.is("settings leave it alone", next(x, plain(0)), 6);
    }

    private static void classes() {
        DUE.about("TOS the traffic class (0, if it is not kept)");
        PacketTranslator x = new PacketTranslator();
        for (int tos : new int[] {0, 1, 15, 16, 127, 128, 255}) {
            for (long label : new long[] {0, 0xfffffL}) {
                byte[] packet = Wire.with(plain(0), 0, 4, 0x60000000L | (long) tos << 20 | label);
                x.ways(true, true);
                Wire.six(x, packet);
                DUE.is("class " + tos, x.octet(0, 0) << 8 | x.octet(0, 1), 0x4500 | tos);
                x.ways(false, true);
                Wire.six(x, packet);
                DUE.is("class " + tos + " that is not kept", x.octet(0, 0) << 8 | x.octet(0, 1), 0x4500);
                DUE.is("the header's CHECKSUM", x.check(0, 0, 20), 0);
            }
        }
    }

    /** With this prefix an image's words differ from the address's, so that sums change. */
    private static PacketTranslator changing() {
        PacketTranslator x = new PacketTranslator();
        x.prefix(0x20010db800000000L, 0, 96);
        return x;
    }

    private static byte[] imageThere(int address) {
        return Wire.join(Wire.number(0x20010db800000000L, 8), Wire.number(address & 0xffffffffL, 8));
    }

    private static void adjustedToZero() {
        DUE.about("For UDP 0 becomes 65535");
        byte[] host = imageThere(Wire.HOST);
        byte[] peer = imageThere(Wire.PEER);
        for (int protocol : new int[] {17, 6}) {
            int field = protocol == 17 ? 6 : 16;
            for (int sum : new int[] {1, 65534, 65535}) {
                byte[] four = FourEdgeTest.segment(protocol, Wire.pseudoFour(Wire.HOST, Wire.PEER, protocol, 24), field, sum, 24);
                byte[] six = Wire.transport(protocol, Wire.with(four, field, 2, 0), field, true, host, peer);
                PacketTranslator x = changing();
                DUE.is("six", Wire.six(x, Wire.six(0, protocol, 64, host, peer, six)), 0);
                // 65535 and 0 are one sum: the adjusted one is 0, which UDP alone writes as 65535.
                DUE.is("protocol " + protocol + ", sum " + sum, Wire.word(Wire.part(x, 0), 20 + field),
                    sum == 65535 && protocol == 6 ? 0 : sum);
            }
        }
        DUE.about("ADJUSTED from the type's word and the PSEUDO words to the new type's word");
        for (int sum : new int[] {0, 1, 65534}) {
            byte[] echo = Wire.with(Wire.hex("0800000000000000 0000"), 2, 2, sum);
            echo = Wire.with(echo, 8, 2, Wire.checksum(echo));
            byte[] sent = Wire.with(Wire.with(echo, 0, 1, 128), 2, 2, 0);
            sent = Wire.with(sent, 2, 2, Wire.checksum(Wire.join(Wire.pseudoSix(host, peer, 58, 10), sent)));
            PacketTranslator x = changing();
            Wire.six(x, Wire.six(0, 58, 64, host, peer, sent));
            DUE.bytes("an echo with sum " + sum, Wire.slice(Wire.part(x, 0), 20, 30), echo);
        }
    }

    private static int typeAndCode(PacketTranslator x) {
        return x.octet(0, 40) << 8 | x.octet(0, 41);
    }

    private static void inOrder() {
        DUE.about("The first of these");
        byte[] bad = Wire.known(0x7f000001);
        byte[] route = header(59, 0, 1);
        byte[] all = Wire.six(0, 43, 0, bad, bad, route);
        DUE.is("malformed and all the others", six(Wire.with(all, 4, 2, 7)), 1);
        DUE.is("the source and the others", six(all), 2);
        DUE.is("the destination and the others", six(Wire.six(0, 43, 0, HOST, bad, route)), 3);
        PacketTranslator x = new PacketTranslator();
        DUE.is("a route and the others", Wire.six(x, Wire.six(0, 43, 0, route)), 10);
        DUE.is("its type and code", typeAndCode(x), 0x400);
        DUE.is("hop limit 0 and the others", Wire.six(x, Wire.six(0, 43, 0, header(59, 0, 0))), 10);
        DUE.is("its type and code", typeAndCode(x), 0x300);
        DUE.is("PROTOCOL 1 with an offset", six(fragment(1, 1, false, NOTHING)), 6);
        DUE.is("ICMPv6 with M, of no bytes", six(fragment(58, 0, true, NOTHING)), 5);
        byte[] wrong = Wire.filled(1600, 0);
        DUE.is("UDP's length and the checksum", six(Wire.six(0, 17, 64, wrong)), 4);
        DUE.is("the checksum and MTU4", six(Wire.six(0, 17, 64, Wire.with(wrong, 4, 2, 1600))), 7);
        DUE.is("a type and MTU4", six(Wire.six(0, 58, 64, wrong)), 6);
        DUE.is("an error's sum and MTU4", six(Wire.six(0, 58, 64, Wire.with(wrong, 0, 1, 1))), 4);
        DUE.is("MTU4 alone", six(Wire.six(0, 58, 64, Wire.with(wrong, 0, 1, 128))), 10);
        DUE.is("an unanswerable hop limit and an unknown protocol", six(Wire.with(fragment(1, 1, false, NOTHING), 7, 1, 1)), 9);
    }

    // ---- VI ----

    private static byte[] error(int type, int code, long second, byte[] inner) {
        return Wire.six(0, 58, 64, Wire.messageSix(type, code, second, inner));
    }

    private static void errorSums() {
        DUE.about("4 DROPPED, if the SUM of PSEUDO words and message is not 65535");
        for (int type = 1; type <= 4; type++) {
            for (int odd = 0; odd < 2; odd++) {
                byte[] packet = error(type, 0, 0, Wire.slice(SENT, 0, SENT.length - odd));
                int sum = Wire.word(packet, 42);
                DUE.is("one below", six(Wire.with(packet, 42, 2, sum - 1)), 4);
                DUE.is("as it is", six(packet), 0);
                DUE.is("one above", six(Wire.with(packet, 42, 2, sum + 1)), 4);
                DUE.is("0", six(Wire.with(packet, 42, 2, 0)), 4);
                DUE.is("the last byte", six(Wire.with(packet, packet.length - 1, 1, packet[packet.length - 1] + 1)), 4);
                DUE.is("an address", six(Wire.with(packet, 23, 1, packet[23] ^ 1)), 4);
            }
        }
    }

    private static void errorTypes() {
        DUE.about("6 DROPPED: all other types");
        for (int type = 0; type < 256; type++) {
            boolean echo = type == 128 || type == 129;
            boolean fine = echo || type >= 1 && type <= 4;
            DUE.is("type " + type, six(error(type, 0, 0, SENT)), fine ? 0 : 6);
            DUE.is("type " + type + " with a wrong sum", six(Wire.with(error(type, 0, 0, SENT), 42, 2, 0)),
                echo ? 0 : fine ? 4 : 6);
        }
    }

    private static void becomes(int type, int code, long second, int newType, int newCode, long newSecond) {
        DUE.bytes("error " + type + "/" + code, out(error(type, code, second, SENT)),
            Wire.four(0, 1, 0, 63, 1, Wire.message(newType, newCode, newSecond, SENT_FOUR)));
    }

    private static void errorCodes() {
        DUE.about("1: codes 0, 2, 3: 3/1; 1: 3/10; 4: 3/3");
        int[] fours = {1, 10, 1, 1, 3};
        for (int code = 0; code < 5; code++) {
            becomes(1, code, 77, 3, fours[code], 0);
        }
        DUE.about("2 (any code): 3/4");
        for (int code : new int[] {0, 1, 127, 128, 255}) {
            becomes(2, code, 1300, 3, 4, 1280);
        }
        DUE.about("3: 11, the code as it is");
        for (int code : new int[] {0, 1, 2, 127, 128, 255}) {
            becomes(3, code, 77, 11, code, 0);
        }
        DUE.about("4: code 0: 12/0; code 1: 3/2");
        becomes(4, 0, 0, 12, 0, 0);
        becomes(4, 1, 77, 3, 2, 0);
        DUE.about("8 DROPPED: others of these");
        for (int code = 5; code < 256; code++) {
            DUE.is("1/" + code, six(error(1, code, 0, SENT)), 8);
        }
        for (int code = 2; code < 256; code++) {
            DUE.is("4/" + code, six(error(4, code, 0, SENT)), 8);
        }
    }

    private static int mtu(int mtu4, int mtu6, long told) {
        PacketTranslator x = new PacketTranslator();
        x.limits(mtu4, mtu6);
        DUE.is("error 2/0", Wire.six(x, error(2, 0, told, SENT)), 0);
        return x.parts() == 0 ? -1 : (int) Wire.quad(Wire.part(x, 0), 24);
    }

    private static void errorMtus() {
        DUE.about("that of the message less 20 (0, if it is less)");
        for (int told : new int[] {0, 1, 19, 20, 21, 22, 276}) {
            DUE.is("told " + told, mtu(1500, 1500, told), told < 20 ? 0 : told - 20);
        }
        DUE.about("not above MTU4");
        for (int told : new int[] {1419, 1420, 1421, 65535, 65536}) {
            DUE.is("told " + told, mtu(1400, 2000, told), Math.min(told - 20, 1400));
        }
        DUE.is("MTU4 68", mtu(68, 1280, 1280), 68);
        DUE.is("MTU4 68, told 87", mtu(68, 1280, 87), 67);
        DUE.about("nor MTU6 less 20");
        for (int told : new int[] {1499, 1500, 1501, 65535, 65536, 65536 + 21}) {
            DUE.is("told " + told, mtu(2000, 1500, told), Math.min(told - 20, 1480));
        }
        DUE.is("MTU4 is MTU6 less 20", mtu(1480, 1500, 9999), 1480);
        DUE.is("MTU4 is one less", mtu(1479, 1500, 9999), 1479);
        DUE.is("MTU4 is one more", mtu(1481, 1500, 9999), 1480);
        DUE.about("bytes 4 to 7, without sign");
        for (long told : new long[] {0x7fffffffL, 0x80000000L, 0x80000013L, 0x80000014L, 0xffffffffL}) {
            DUE.is("told " + told, mtu(1500, 1500, told), 1480);
        }
    }

    private static void errorPointers() {
        DUE.about("pointer (bytes 4 to 7) 0: 0, 1: 1, 4, 5: 2, 6: 9, 7: 8, 8 to 23: 12, 24 to 39: 16. 8 DROPPED: others");
        for (int[] p : new int[][] {{0, 0}, {1, 1}, {4, 2}, {5, 2}, {6, 9}, {7, 8}}) {
            becomes(4, 0, p[0], 12, 0, (long) p[1] << 24);
        }
        for (int pointer = 8; pointer <= 39; pointer++) {
            becomes(4, 0, pointer, 12, 0, pointer <= 23 ? 12L << 24 : 16L << 24);
        }
        for (long pointer : new long[] {2, 3, 40, 41, 255, 256, 257, 0x10000L, 0x01000000L, 0x7fffffffL, 0x80000000L,
            0x80000001L, 0xffffffffL}) {
            DUE.is("pointer " + pointer, six(error(4, 0, pointer, SENT)), 8);
        }
    }

    private static int carrying(byte[] inner) {
        return six(error(1, 0, 0, inner));
    }

    private static byte[] innerSix(int next, byte[] rest) {
        return Wire.six(0, next, 9, PEER, HOST, rest);
    }

    private static void innerHeaders() {
        DUE.about("8 DROPPED: fewer than 40 bytes, version not 6");
        for (int n : new int[] {0, 1, 20, 39, 40, 41}) {
            DUE.is(n + " bytes", carrying(Wire.slice(SENT, 0, n)), n < 40 ? 8 : 0);
        }
        for (int version = 0; version < 16; version++) {
            DUE.is("version " + version, carrying(Wire.with(SENT, 0, 1, version << 4)), version == 6 ? 0 : 8);
        }
        DUE.about("headers as in IV that are not there with all their bytes, or are more than the payload length, a second 44");
        for (int kind : new int[] {0, 43, 60, 44}) {
            for (int units : new int[] {0, 1, 100}) {
                int size = kind == 44 ? 8 : 8 + 8 * units;
                byte[] inner = innerSix(kind, Wire.join(header(50, units, 0), Wire.counting(9)));
                DUE.is("header " + kind + ", none of it", carrying(Wire.slice(inner, 0, 40)), 8);
                DUE.is("all but one of " + size, carrying(Wire.slice(inner, 0, 40 + size - 1)), 8);
                DUE.is("all of " + size, carrying(Wire.slice(inner, 0, 40 + size)), 0);
                DUE.is("a payload length one less", carrying(Wire.with(inner, 4, 2, size - 1)), 8);
                DUE.is("a payload length of it", carrying(Wire.with(inner, 4, 2, size)), 0);
                DUE.is("a payload length one more", carrying(Wire.with(inner, 4, 2, size + 1)), 0);
            }
        }
        byte[] last = Wire.fragmentHeader(50, 0, false, 8);
        DUE.is("one 44", carrying(innerSix(44, last)), 0);
        DUE.is("a second 44", carrying(innerSix(44, Wire.join(Wire.fragmentHeader(44, 0, false, 7), last))), 8);
        DUE.is("a route that is open", carrying(innerSix(43, header(50, 0, 255))), 0);
        DUE.about("TTL as it is");
        for (int hops : new int[] {0, 1, 2, 255}) {
            DUE.is("hop limit " + hops, Wire.at(out(error(1, 0, 0, Wire.with(SENT, 7, 1, hops))), 36), hops);
        }
        DUE.about("identification of a 44, else 0");
        DUE.is("a 44", Wire.word(out(error(1, 0, 0, innerSix(44, Wire.fragmentHeader(50, 0, false, 0x1ffffL)))), 32), 65535);
        DUE.is("none", Wire.word(out(error(1, 0, 0, SENT)), 32), 0);
    }

    private static void innerAddresses() {
        DUE.about("an address that is no image");
        for (int bit = 0; bit < 96; bit++) {
            int turned = PEER[bit / 8] ^ 128 >> bit % 8;
            DUE.is("source with bit " + bit + " turned", carrying(Wire.with(SENT, 8 + bit / 8, 1, turned)), 8);
            DUE.is("target with bit " + bit + " turned", carrying(Wire.with(SENT, 24 + bit / 8, 1, turned)), 8);
        }
        for (long[][] ranges : new long[][][] {AddressEdgeTest.NEVER, AddressEdgeTest.NOT_IN_WELL_KNOWN}) {
            for (long[] range : ranges) {
                for (long a : range) {
                    DUE.is("source " + Long.toHexString(a), carrying(Wire.with(SENT, 20, 4, a)), 8);
                    DUE.is("target " + Long.toHexString(a), carrying(Wire.with(SENT, 36, 4, a)), 8);
                }
                long before = range[0] == 0 ? Wire.PEER : range[0] - 1;
                long behind = range[1] == 0xffffffffL ? Wire.HOST : range[1] + 1;
                DUE.is("beside it", carrying(Wire.with(Wire.with(SENT, 20, 4, before), 36, 4, behind)), 0);
            }
        }
        DUE.about("a PROTOCOL that IV 6 tells");
        for (int protocol = 0; protocol < 256; protocol++) {
            boolean not = protocol <= 2 || protocol == 43 || protocol == 44 || protocol == 59 || protocol == 60;
            byte[] later = innerSix(44, Wire.join(Wire.fragmentHeader(protocol, 1, false, 7), Wire.filled(8, 128)));
            DUE.is("behind an offset " + protocol, carrying(later), not || protocol == 58 ? 8 : 0);
            if (protocol == 1 || protocol == 2 || protocol == 59) {
                DUE.is("PROTOCOL " + protocol, carrying(innerSix(protocol, Wire.filled(8, 128))), 8);
            }
        }
    }

    private static void innerMessages() {
        DUE.about("ICMPv6 that is a fragment, has fewer than 4 bytes, or a type but 128, 129");
        byte[] message = Wire.messageSix(128, 0, 7, Wire.counting(5), PEER, HOST);
        byte[] echo = innerSix(58, message);
        byte[] four = Wire.message(8, 0, 7, Wire.counting(5));
        for (int n = 0; n <= 8; n++) {
            DUE.is("an echo of " + n, carrying(Wire.slice(echo, 0, 40 + n)), n < 4 ? 8 : 0);
            DUE.is("an echo that tells " + n, carrying(Wire.with(echo, 4, 2, n)), n < 4 ? 8 : 0);
        }
        DUE.is("a 44 with neither", carrying(innerSix(44, Wire.join(Wire.fragmentHeader(58, 0, false, 7), message))), 0);
        DUE.is("M", carrying(innerSix(44, Wire.join(Wire.fragmentHeader(58, 0, true, 7), message))), 8);
        DUE.is("offset 1", carrying(innerSix(44, Wire.join(Wire.fragmentHeader(58, 1, false, 7), message))), 8);
        for (int type = 0; type < 256; type++) {
            DUE.is("type " + type, carrying(Wire.with(echo, 40, 1, type)), type == 128 || type == 129 ? 0 : 8);
        }
        DUE.about("lengths by its payload length");
        for (int n : new int[] {4, 5, 12, 13}) {
            byte[] out = out(error(1, 0, 0, Wire.slice(echo, 0, 40 + n)));
            DUE.bytes("an echo of " + n, Wire.slice(out, 48, out.length), Wire.slice(four, 0, n));
        }
    }

    private static void innerTotals() {
        DUE.about("total length above 65535");
        byte[] plain = innerSix(50, NOTHING);
        byte[] headed = innerSix(60, header(50, 1, 0));
        for (int length : new int[] {65514, 65515, 65516, 65535}) {
            DUE.is("payload length " + length, carrying(Wire.with(plain, 4, 2, length)), length > 65515 ? 8 : 0);
        }
        for (int length : new int[] {65530, 65531, 65532, 65535}) {
            DUE.is("payload length " + length + " with a header", carrying(Wire.with(headed, 4, 2, length)), length > 65531 ? 8 : 0);
        }
        DUE.is("65535", Wire.word(out(error(1, 0, 0, Wire.with(headed, 4, 2, 65531))), 30), 65535);
        DUE.about("DF as told there; lengths by its payload length");
        for (int length : new int[] {0, 1239, 1240, 1241, 65515}) {
            byte[] out = out(error(1, 0, 0, Wire.with(plain, 4, 2, length)));
            DUE.is("total length", Wire.word(out, 30), 20 + length);
            DUE.is("DF of payload length " + length, Wire.word(out, 34), length > 1240 ? 0x4000 : 0);
            byte[] cut = innerSix(44, Wire.fragmentHeader(50, 8191, true, 7));
            byte[] other = out(error(1, 0, 0, Wire.with(cut, 4, 2, 8 + length)));
            DUE.is("with a 44", Wire.word(other, 34), 0x2000 | 8191);
        }
        DUE.bytes("bytes behind the payload length", out(error(1, 0, 0, Wire.join(SENT, Wire.counting(3)))),
            Wire.four(0, 1, 0, 63, 1, Wire.message(3, 1, 0, SENT_FOUR)));
    }

    private static byte[] innerPayload(byte[] inner) {
        PacketTranslator x = changing();
        byte[] host = imageThere(Wire.HOST);
        byte[] peer = imageThere(Wire.PEER);
        DUE.is("an error", Wire.six(x, Wire.six(0, 58, 64, host, peer, Wire.messageSix(1, 0, 0, inner, host, peer))), 0);
        return x.parts() == 1 ? Wire.slice(Wire.part(x, 0), 48, x.size(0)) : NOTHING;
    }

    private static void innerSums() {
        DUE.about("checksums without an offset ADJUSTED, where both bytes are there (UDP with 0 stays)");
        byte[] from = Wire.number(Wire.PEER, 4);
        byte[] to = Wire.number(Wire.HOST, 4);
        byte[] from6 = imageThere(Wire.PEER);
        byte[] to6 = imageThere(Wire.HOST);
        for (int protocol : new int[] {17, 6}) {
            int field = protocol == 17 ? 6 : 16;
            byte[] segment = protocol == 17 ? Wire.udp(Wire.counting(20), true, from6, to6) : Wire.tcp(Wire.counting(8), true, from6, to6);
            byte[] fixed = protocol == 17 ? Wire.udp(Wire.counting(20), false, from, to) : Wire.tcp(Wire.counting(8), false, from, to);
            byte[] inner = Wire.six(0, protocol, 9, from6, to6, segment);
            for (int n : new int[] {0, field, field + 1, field + 2, field + 3, 28}) {
                byte[] want = n < field + 2 ? segment : fixed;
                DUE.bytes("protocol " + protocol + ", bytes " + n, innerPayload(Wire.slice(inner, 0, 40 + n)), Wire.slice(want, 0, n));
            }
            byte[] told = Wire.with(inner, 4, 2, field + 1);
            DUE.bytes("a payload length that ends within", innerPayload(told), Wire.slice(segment, 0, field + 1));
            for (int offset = 0; offset < 2; offset++) {
                byte[] cut = Wire.six(0, 44, 9, from6, to6, Wire.join(Wire.fragmentHeader(protocol, offset, true, 7), segment));
                DUE.bytes("with a 44, offset " + offset, innerPayload(cut), offset == 0 ? fixed : segment);
            }
        }
        byte[] unsummed = Wire.with(Wire.udp(Wire.counting(5), true, from6, to6), 6, 2, 0);
        DUE.is("UDP with 0", Wire.word(innerPayload(Wire.six(0, 17, 9, from6, to6, unsummed)), 6), 0);
        DUE.about("For UDP 0 becomes 65535");
        for (int protocol : new int[] {17, 6}) {
            int field = protocol == 17 ? 6 : 16;
            byte[] four = FourEdgeTest.segment(protocol, Wire.pseudoFour(Wire.PEER, Wire.HOST, protocol, 24), field, 0, 24);
            byte[] six = Wire.transport(protocol, four, field, true, from6, to6);
            DUE.is("inner protocol " + protocol, Wire.word(innerPayload(Wire.six(0, protocol, 9, from6, to6, six)), field),
                protocol == 17 ? 65535 : 0);
        }
    }

    private static void longErrors() {
        DUE.about("576 bytes in all at most");
        for (int length : new int[] {574, 575, 576, 577, 578, 1280}) {
            int payload = length - 48;
            byte[] inner = innerSix(50, Wire.counting(payload));
            byte[] inner4 = Wire.four(0, 0, 0, 9, 50, Wire.PEER, Wire.HOST, NOTHING, Wire.counting(payload));
            byte[] message = Wire.message(3, 1, 0, Wire.slice(inner4, 0, Math.min(inner4.length, 548)));
            DUE.bytes("an error of " + length, out(error(1, 0, 0, inner)), Wire.four(0, 1, 0, 63, 1, message));
        }
        byte[] longest = innerSix(50, Wire.counting(2312));
        byte[] longest4 = Wire.fourWith(Wire.four(0, 0, 0x4000, 9, 50, Wire.PEER, Wire.HOST, NOTHING, Wire.counting(528)), 2, 2, 2332);
        DUE.bytes("the longest", out(error(1, 0, 0, longest)), Wire.four(0, 1, 0, 63, 1, Wire.message(3, 1, 0, longest4)));
        for (int mtu : new int[] {575, 576, 577}) {
            PacketTranslator x = new PacketTranslator();
            x.limits(mtu, 1280);
            DUE.is("MTU4 " + mtu, Wire.six(x, error(1, 0, 0, longest)), 0);
            DUE.is("parts", x.parts(), mtu < 576 ? 2 : 1);
            DUE.is("the counter", x.count(12), 1);
        }
    }

    // ---- VII ----

    private static void quotes() {
        DUE.about("the packet, up to 1280 bytes in all");
        for (int length : new int[] {88, 89, 1279, 1280, 1281, 2400}) {
            byte[] packet = Wire.six(3, 50, 1, Wire.counting(Math.min(length - 88, 2360)));
            PacketTranslator x = new PacketTranslator();
            byte[] quoted = Wire.slice(packet, 0, Math.min(packet.length, 1232));
            DUE.is("six", Wire.six(x, packet.length < 2390 ? Wire.join(packet, Wire.filled(9, 9)) : packet), 10);
            DUE.is("size of " + length, x.size(0), Math.min(length, 1280));
            DUE.bytes("the answer", Wire.part(x, 0), Wire.six(0, 58, 64, OWN, HOST, Wire.messageSix(3, 0, 0, quoted, OWN, HOST)));
        }
    }

    private static void muteMessages() {
        DUE.about("9 DROPPED, where it would answer a packet with an offset");
        DUE.is("no 44", six(Wire.six(0, 50, 1, NOTHING)), 10);
        DUE.is("a 44 with neither", six(Wire.with(fragment(50, 0, false, NOTHING), 7, 1, 1)), 10);
        DUE.is("M", six(Wire.with(fragment(50, 0, true, NOTHING), 7, 1, 1)), 10);
        for (int offset : new int[] {1, 4096, 8191}) {
            DUE.is("offset " + offset, six(Wire.with(fragment(50, offset, false, NOTHING), 7, 1, 1)), 9);
        }
        DUE.about("or ICMPv6 that has no byte of payload, or a type but 128, 129 there");
        DUE.is("no byte", six(Wire.six(0, 58, 1, NOTHING)), 9);
        DUE.is("no byte, but one behind", six(Wire.join(Wire.six(0, 58, 1, NOTHING), Wire.filled(1, 128))), 9);
        for (int type = 0; type < 256; type++) {
            int want = type == 128 || type == 129 ? 10 : 9;
            DUE.is("one byte, type " + type, six(Wire.six(0, 58, 1, Wire.number(type, 1))), want);
            DUE.is("behind a header", six(Wire.six(0, 60, 1, Wire.join(header(58, 0, 0), Wire.number(type, 1)))), want);
            DUE.is("of another protocol", six(Wire.six(0, 1, 1, Wire.number(type, 1))), 10);
        }
        DUE.is("a first fragment of an echo", six(Wire.with(fragment(58, 0, true, Wire.filled(8, 128)), 7, 1, 1)), 10);
        DUE.is("an open route before an error", six(Wire.six(0, 43, 64, Wire.join(header(58, 0, 1), Wire.filled(8, 1)))), 9);
    }
}
