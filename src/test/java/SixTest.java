/** Promise 9: packets from IPv6 (IV, VI, VII). */
public final class SixTest {
    private static final Due DUE = new Due();
    private static final byte[] FIVE = Wire.hex("0102030405");
    private static final byte[] NOTHING = new byte[0];
    private static final byte[] OWN = Wire.hex("20010db8000000000000000000000001");

    public static void main(String[] args) {
        headers();
        otherPrefix();
        malformed();
        chains();
        fragments();
        addresses();
        order();
        protocols();
        transports();
        identifications();
        tooBig();
        splits();
        echoes();
        errors();
        errorMtu();
        errorPointers();
        inner();
        innerFaults();
        longErrors();
        answers();
        noAnswers();
        DUE.finish();
    }

    private static int six(byte[] packet) {
        return Wire.six(new PacketTranslator(), packet);
    }

    private static byte[] out(byte[] packet) {
        PacketTranslator x = new PacketTranslator();
        DUE.is(Wire.text(packet), Wire.six(x, packet), 0);
        DUE.is("one packet of " + Wire.text(packet), x.parts(), 1);
        return x.parts() == 0 ? NOTHING : Wire.part(x, 0);
    }

    /** What comes out of a new object: the counter gives 1. */
    private static byte[] four(int tos, int ttl, int protocol, byte[] payload) {
        return Wire.four(tos, 1, 0, ttl, protocol, payload);
    }

    private static byte[] header(int next, int units, int fourth) {
        return Wire.with(Wire.with(Wire.filled(8 + 8 * units, 0), 0, 2, next << 8 | units), 3, 1, fourth);
    }

    private static void headers() {
        DUE.bytes("UDP", out(Wire.hex("62800000 000d1140 0064ff9b 00000000 00000000 c0000221 0064ff9b 00000000 00000000"
            + "c6336402 12340035 000df80d 01020304 05")),
            Wire.hex("45280021 00010000 3f118f4c c0000221 c6336402 12340035 000df80d 01020304 05"));
        DUE.bytes("TCP", out(Wire.six(0xff, 6, 255, Wire.tcpSix(FIVE))), four(0xff, 254, 6, Wire.tcpFour(FIVE)));
        byte[] label = Wire.with(Wire.six(0x5a, 6, 2, Wire.tcpSix(FIVE)), 1, 3, 0xafffffL);
        DUE.bytes("a flow label, bytes behind the payload length", out(Wire.join(label, FIVE)),
            four(0x5a, 1, 6, Wire.tcpFour(FIVE)));
        DUE.bytes("another protocol, no payload", out(Wire.six(0, 50, 2, NOTHING)), four(0, 1, 50, NOTHING));
        DUE.bytes("another protocol is left as it is", out(Wire.six(0, 132, 2, Wire.counting(33))),
            four(0, 1, 132, Wire.counting(33)));
    }

    private static void otherPrefix() {
        PacketTranslator x = new PacketTranslator();
        x.prefix(0x20010db801220300L, 0, 56);
        byte[] host = Wire.hex("20010db8012203c0 0000022100000000");
        byte[] peer = Wire.hex("20010db8012203c6 0033640200000000");
        Wire.six(x, Wire.six(0, 17, 64, host, peer, Wire.udp(FIVE, true, host, peer)));
        DUE.bytes("UDP in another prefix", Wire.part(x, 0), Wire.four(0, 1, 0, 63, 17, Wire.udpFour(FIVE)));
        Wire.six(x, Wire.six(0, 6, 64, host, peer, Wire.tcp(FIVE, true, host, peer)));
        DUE.bytes("TCP", Wire.part(x, 0), Wire.four(0, 2, 0, 63, 6, Wire.tcpFour(FIVE)));
        Wire.six(x, Wire.six(0, 58, 64, host, peer, Wire.messageSix(129, 0, 7, FIVE, host, peer)));
        DUE.bytes("an echo", Wire.part(x, 0), Wire.four(0, 3, 0, 63, 1, Wire.message(0, 0, 7, FIVE)));
        byte[] sent = Wire.six(0x33, 17, 9, peer, host, Wire.udp(FIVE, true, peer, host));
        Wire.six(x, Wire.six(0, 58, 64, host, peer, Wire.messageSix(1, 0, 0, sent, host, peer)));
        DUE.bytes("an error", Wire.part(x, 0), Wire.four(0, 4, 0, 63, 1, Wire.message(3, 1, 0, SENT_FOUR)));
    }

    private static void malformed() {
        byte[] good = Wire.six(0, 17, 64, Wire.udpSix(FIVE));
        DUE.is("good", six(good), 0);
        for (int n = 0; n < good.length; n++) {
            DUE.is("the first " + n + " bytes", six(Wire.slice(good, 0, n)), 1);
        }
        for (int version = 0; version < 16; version++) {
            DUE.is("version " + version, six(Wire.with(good, 0, 1, version << 4)), version == 6 ? 0 : 1);
        }
        DUE.is("payload length beyond the bytes", six(Wire.with(good, 4, 2, 14)), 1);
        DUE.is("payload length below the bytes", six(Wire.with(good, 4, 2, 12)), 4);
        for (int kind : new int[] {0, 43, 60, 44}) {
            DUE.is("no header " + kind, six(Wire.six(0, kind, 64, NOTHING)), 1);
            DUE.is("half a header " + kind, six(Wire.six(0, kind, 64, Wire.slice(header(50, 0, 0), 0, 7))), 1);
            DUE.is("half a header, the rest behind the length " + kind,
                six(Wire.with(Wire.six(0, kind, 64, header(50, 0, 0)), 4, 2, 7)), 1);
            DUE.is("a whole header " + kind, six(Wire.six(0, kind, 64, header(50, 0, 0))), 0);
            DUE.is("a longer header " + kind, six(Wire.six(0, kind, 64, header(50, 3, 0))), 0);
            byte[] cut = Wire.slice(header(50, 3, 0), 0, 31);
            DUE.is("a longer header cut " + kind, six(Wire.six(0, kind, 64, cut)), kind == 44 ? 0 : 1);
            DUE.is("no second header " + kind, six(Wire.six(0, 60, 64, header(kind, 0, 0))), 1);
        }
    }

    private static void chains() {
        byte[] udp = Wire.udpSix(FIVE);
        byte[] rest = Wire.join(header(43, 1, 0), header(60, 0, 0), header(0, 2, 0), header(17, 0, 0), udp);
        DUE.bytes("headers are gone", out(Wire.six(0, 0, 64, rest)), four(0, 63, 17, Wire.udpFour(FIVE)));
        byte[] fragment = Wire.fragmentHeader(60, 0, false, 0x12345678L);
        DUE.bytes("headers behind a fragment header", out(Wire.six(0, 44, 64, Wire.join(fragment, header(17, 1, 0), udp))),
            Wire.four(0, 0x5678, 0, 63, 17, Wire.udpFour(FIVE)));
        DUE.is("a second fragment header", six(Wire.six(0, 44, 64,
            Wire.join(Wire.fragmentHeader(44, 0, false, 5), Wire.fragmentHeader(17, 0, false, 5), udp))), 1);
        DUE.is("a second fragment header, behind another", six(Wire.six(0, 44, 64,
            Wire.join(Wire.fragmentHeader(60, 0, false, 5), header(44, 0, 0), Wire.fragmentHeader(17, 0, false, 5), udp))), 1);
        for (int next : new int[] {0, 43, 44, 60}) {
            DUE.is("behind an offset there are no headers", six(Wire.six(0, 44, 64, Wire.fragmentHeader(next, 1, false, 5))), 6);
        }
        byte[] many = Wire.join(Wire.filled(0, 0));
        for (int k = 0; k < 294; k++) {
            many = Wire.join(header(k == 0 ? 50 : 60, 0, 0), many);
        }
        DUE.bytes("as many headers as can be", out(Wire.six(0, 60, 64, Wire.join(many, FIVE))), four(0, 63, 50, FIVE));
        byte[] full = Wire.join(many, header(50, 0, 0));
        byte[] open = Wire.with(full, 294 * 8 - 8, 1, 60);
        DUE.bytes("headers up to the last byte", out(Wire.six(0, 60, 64, open)), four(0, 63, 50, NOTHING));
        DUE.is("a header too many", six(Wire.six(0, 60, 64, Wire.with(open, 294 * 8, 1, 60))), 1);
    }

    private static void fragments() {
        byte[] udp = Wire.udpSix(Wire.counting(8));
        DUE.bytes("a first fragment", out(Wire.six(0, 44, 64, Wire.join(Wire.fragmentHeader(17, 0, true, 0xabcd1234L), udp))),
            Wire.four(0, 0x1234, 0x2000, 63, 17, Wire.udpFour(Wire.counting(8))));
        DUE.bytes("a later fragment", out(Wire.six(0, 44, 64, Wire.join(Wire.fragmentHeader(17, 0x123, true, 9), udp))),
            Wire.four(0, 9, 0x2123, 63, 17, udp));
        DUE.bytes("a last fragment", out(Wire.six(0, 44, 64, Wire.join(Wire.fragmentHeader(6, 8191, false, 9), FIVE))),
            Wire.four(0, 9, 0x1fff, 63, 6, FIVE));
        DUE.bytes("a fragment that is all", out(Wire.six(0, 44, 64, Wire.join(Wire.fragmentHeader(17, 0, false, 0), udp))),
            Wire.four(0, 0, 0, 63, 17, Wire.udpFour(Wire.counting(8))));
        byte[] reserved = Wire.with(Wire.fragmentHeader(17, 0, false, 0), 1, 3, 0xff0006L);
        DUE.bytes("what is reserved counts nothing", out(Wire.six(0, 44, 64, Wire.join(reserved, udp))),
            Wire.four(0, 0, 0, 63, 17, Wire.udpFour(Wire.counting(8))));
        for (int n = 0; n <= 24; n++) {
            DUE.is("more, and bytes " + n, six(Wire.six(0, 44, 64, Wire.join(Wire.fragmentHeader(50, 0, true, 5), Wire.counting(n)))), n % 8 == 0 ? 0 : 1);
            DUE.is("more, an offset, and bytes " + n, six(Wire.six(0, 44, 64, Wire.join(Wire.fragmentHeader(17, 5, true, 5), Wire.counting(n)))), n % 8 == 0 ? 0 : 1);
            DUE.is("no more, and bytes " + n, six(Wire.six(0, 44, 64, Wire.join(Wire.fragmentHeader(50, 1, false, 5), Wire.counting(n)))), 0);
        }
        DUE.is("up to 65535", six(Wire.six(0, 44, 64, Wire.join(Wire.fragmentHeader(50, 8190, false, 5), Wire.counting(15)))), 0);
        DUE.is("beyond 65535", six(Wire.six(0, 44, 64, Wire.join(Wire.fragmentHeader(50, 8190, false, 5), Wire.counting(16)))), 1);
        DUE.is("beyond 65535, with more", six(Wire.six(0, 44, 64, Wire.join(Wire.fragmentHeader(50, 8190, true, 5), Wire.counting(16)))), 1);
    }

    private static void addresses() {
        byte[] host = Wire.known(Wire.HOST);
        for (int bad : new int[] {0x00010203, 0x7f000001, 0xa9fe0001, 0xe0000001, 0xffffffff, 0x0a000001, 0xac1f0001,
            0xc0a80001}) {
            byte[] image = Wire.known(bad);
            DUE.is("source " + Integer.toHexString(bad), six(Wire.six(0, 50, 64, image, host, FIVE)), 2);
            DUE.is("target " + Integer.toHexString(bad), six(Wire.six(0, 50, 64, host, image, FIVE)), 3);
            DUE.is("both " + Integer.toHexString(bad), six(Wire.six(0, 50, 64, image, image, FIVE)), 2);
        }
        for (int i = 0; i < 12; i++) {
            byte[] other = Wire.with(host, i, 1, host[i] ^ 1);
            DUE.is("no image in the source", six(Wire.six(0, 50, 64, other, host, FIVE)), 2);
            DUE.is("no image in the target", six(Wire.six(0, 50, 64, host, other, FIVE)), 3);
        }
    }

    private static void order() {
        byte[] route = Wire.join(header(59, 0, 3), NOTHING);
        byte[] bad = Wire.known(1);
        byte[] host = Wire.known(Wire.HOST);
        DUE.is("malformed before the source", six(Wire.six(0, 60, 1, bad, host, NOTHING)), 1);
        DUE.is("no source before a route", six(Wire.six(0, 43, 1, bad, host, route)), 2);
        DUE.is("no target before a route", six(Wire.six(0, 43, 1, host, bad, route)), 3);
        PacketTranslator x = new PacketTranslator();
        DUE.is("a route before hop limit 1", Wire.six(x, Wire.six(0, 43, 1, route)), 10);
        DUE.is("its type and code", x.octet(0, 40) << 8 | x.octet(0, 41), 0x400);
        DUE.is("hop limit 1 before the protocol", Wire.six(x, Wire.six(0, 59, 1, NOTHING)), 10);
        DUE.is("its type and code", x.octet(0, 40) << 8 | x.octet(0, 41), 0x300);
        DUE.is("the protocol before fragments", six(Wire.six(0, 44, 64, Wire.fragmentHeader(1, 0, true, 5))), 6);
        DUE.is("fragments before the length", six(Wire.six(0, 44, 64, Wire.fragmentHeader(58, 0, true, 5))), 5);
        DUE.is("the length before the checksum", six(Wire.six(0, 17, 64, Wire.filled(7, 0))), 4);
        DUE.is("UDP's length before the checksum", six(Wire.six(0, 17, 64, Wire.filled(9, 0))), 4);
        DUE.is("the checksum before the length as IPv4",
            six(Wire.six(0, 17, 64, Wire.with(Wire.filled(1600, 0), 4, 2, 1600))), 7);
        DUE.is("the length of a message before its type", six(Wire.six(0, 58, 64, Wire.filled(7, 77))), 4);
    }

    private static void protocols() {
        for (int protocol = 0; protocol < 256; protocol++) {
            boolean header = protocol == 0 || protocol == 43 || protocol == 44 || protocol == 60;
            boolean not = header || protocol == 1 || protocol == 2 || protocol == 59;
            int want = header ? 1 : not ? 6 : protocol == 58 || protocol == 6 || protocol == 17 ? 4 : 0;
            DUE.is("protocol " + protocol, six(Wire.six(0, protocol, 64, FIVE)), want);
            byte[] behind = Wire.join(Wire.fragmentHeader(protocol, 3, false, 5), FIVE);
            DUE.is("with an offset, protocol " + protocol, six(Wire.six(0, 44, 64, behind)), not ? 6 : protocol == 58 ? 5 : 0);
        }
        byte[] echo = Wire.messageSix(128, 0, 0, NOTHING);
        DUE.is("ICMPv6 with more", six(Wire.six(0, 44, 64, Wire.join(Wire.fragmentHeader(58, 0, true, 5), echo))), 5);
        DUE.is("ICMPv6 with a 44 alone", six(Wire.six(0, 44, 64, Wire.join(Wire.fragmentHeader(58, 0, false, 5), echo))), 0);
    }

    private static void transports() {
        DUE.is("UDP of 8 bytes", six(Wire.six(0, 17, 64, Wire.udpSix(NOTHING))), 0);
        DUE.is("UDP of 7 bytes", six(Wire.six(0, 17, 64, Wire.hex("12340035000700"))), 4);
        DUE.is("TCP of 20 bytes", six(Wire.six(0, 6, 64, Wire.tcpSix(NOTHING))), 0);
        DUE.is("TCP of 19 bytes", six(Wire.six(0, 6, 64, Wire.filled(19, 0))), 4);
        DUE.is("ICMPv6 of 8 bytes", six(Wire.six(0, 58, 64, Wire.messageSix(128, 0, 0, NOTHING))), 0);
        DUE.is("ICMPv6 of 7 bytes", six(Wire.six(0, 58, 64, Wire.hex("80000000000000"))), 4);
        byte[] udp = Wire.udpSix(Wire.counting(8));
        byte[] unsummed = Wire.with(udp, 6, 2, 0);
        for (int length : new int[] {0, 8, 15, 17, 65535}) {
            byte[] wrong = Wire.with(udp, 4, 2, length);
            DUE.is("UDP that tells " + length, six(Wire.six(0, 17, 64, wrong)), 4);
            DUE.is("first fragment that tells " + length, six(Wire.six(0, 44, 64, Wire.join(Wire.fragmentHeader(17, 0, true, 1), wrong))), 0);
            DUE.is("a 44 alone that tells " + length, six(Wire.six(0, 44, 64, Wire.join(Wire.fragmentHeader(17, 0, false, 1), wrong))), 4);
        }
        DUE.is("UDP without a sum", six(Wire.six(0, 17, 64, unsummed)), 7);
        DUE.is("a first fragment without a sum", six(Wire.six(0, 44, 64, Wire.join(Wire.fragmentHeader(17, 0, true, 1), unsummed))), 7);
        DUE.is("a later fragment", six(Wire.six(0, 44, 64, Wire.join(Wire.fragmentHeader(17, 1, true, 1), unsummed))), 0);
        for (int protocol : new int[] {17, 6}) {
            int field = protocol == 17 ? 6 : 16;
            byte[] segment = Wire.with(Wire.filled(24, 0), 4, 2, 24);
            byte[] pseudo = Wire.pseudoFour(Wire.HOST, Wire.PEER, protocol, 24);
            byte[] zero = Wire.with(segment, 22, 2, Wire.checksum(Wire.join(pseudo, segment)));
            byte[] whole = Wire.transport(protocol, zero, field, true, Wire.known(Wire.HOST), Wire.known(Wire.PEER));
            byte[] four = out(Wire.six(0, protocol, 64, whole));
            DUE.is("protocol " + protocol + ": its sum 0", Wire.word(four, 20 + field), protocol == 17 ? 65535 : 0);
        }
    }

    private static void identifications() {
        PacketTranslator x = new PacketTranslator();
        x.limits(1400, 1500);
        byte[] plain = Wire.six(0, 50, 9, Wire.counting(1240));
        for (int k = 1; k <= 5; k++) {
            Wire.six(x, plain);
            DUE.is("the counter's next, no DF", Wire.quad(Wire.part(x, 0), 4), (long) k << 16);
            DUE.is("the counter", x.count(12), k);
        }
        Wire.six(x, Wire.six(0, 50, 9, Wire.counting(1241)));
        DUE.is("0 with DF", Wire.quad(Wire.part(x, 0), 4), 0x4000L);
        DUE.is("the counter stays with DF", x.count(12), 5);
        Wire.six(x, Wire.six(0, 44, 9, Wire.join(Wire.fragmentHeader(50, 0, false, 0x99998888L), Wire.counting(1300))));
        DUE.is("that of a 44, no DF", Wire.quad(Wire.part(x, 0), 4), 0x88880000L);
        DUE.is("the counter stays with a 44", x.count(12), 5);
        DUE.is("an answer", Wire.six(x, Wire.six(0, 50, 9, Wire.counting(1390))), 10);
        DUE.is("the counter stays with an answer", x.count(12), 5);
        DUE.is("a drop", Wire.six(x, Wire.six(0, 17, 9, Wire.filled(8, 0))), 4);
        DUE.is("the counter stays with a drop", x.count(12), 5);
        Wire.four(x, Wire.four(0, 77, 0, 64, 50, Wire.counting(1300)));
        DUE.is("the counter stays with IPv4", x.count(12), 5);
        x.limits(576, 1500);
        Wire.six(x, plain);
        DUE.is("pieces", x.parts(), 3);
        DUE.is("have one identification", x.count(12), 6);
        for (int k = 0; k < 3; k++) {
            DUE.is("piece " + k, Wire.word(Wire.part(x, k), 4), 6);
        }
    }

    private static void tooBig() {
        PacketTranslator x = new PacketTranslator();
        x.limits(1300, 1500);
        DUE.is("as long as MTU4", Wire.six(x, Wire.six(0, 50, 9, Wire.counting(1280))), 0);
        DUE.is("of that size", x.size(0), 1300);
        byte[] packet = Wire.six(0, 50, 9, Wire.counting(1281));
        DUE.is("longer than MTU4", Wire.six(x, packet), 10);
        DUE.bytes("the answer", Wire.part(x, 0), Wire.six(0, 58, 64, OWN, Wire.known(Wire.HOST),
            Wire.messageSix(2, 0, 1320, Wire.slice(packet, 0, 1232), OWN, Wire.known(Wire.HOST))));
        DUE.is("an echo too long", Wire.six(x, Wire.six(0, 58, 9, Wire.messageSix(129, 0, 0, Wire.counting(1300)))), 10);
        x.limits(68, 1280);
        DUE.is("the least MTU4", Wire.six(x, Wire.six(0, 50, 9, Wire.counting(1241))), 10);
        DUE.is("its MTU", Wire.quad(Wire.part(x, 0), 44), 88);
        DUE.is("without DF", Wire.six(x, Wire.six(0, 50, 9, Wire.counting(1240))), 0);
        DUE.is("is split", x.parts(), 26);
    }

    private static void splits() {
        PacketTranslator x = new PacketTranslator();
        byte[] data = Wire.counting(103);
        x.limits(75, 1280);
        DUE.is("48 and 55", Wire.six(x, Wire.six(7, 50, 9, data)), 0);
        DUE.is("make two", x.parts(), 2);
        DUE.bytes("the first", Wire.part(x, 0), Wire.four(7, 1, 0x2000, 8, 50, Wire.slice(data, 0, 48)));
        DUE.bytes("the last, as soon as it fits", Wire.part(x, 1), Wire.four(7, 1, 6, 8, 50, Wire.slice(data, 48, 103)));
        Wire.six(x, Wire.six(7, 50, 9, Wire.counting(104)));
        DUE.is("one byte more makes three", x.parts(), 3);
        DUE.is("the second", x.size(1), 68);
        DUE.is("the third", x.size(2), 28);
        Wire.six(x, Wire.six(7, 50, 9, Wire.counting(55)));
        DUE.is("what fits is not split", x.parts(), 1);
        DUE.is("and is no multiple", x.size(0), 75);
        x.limits(76, 1280);
        Wire.six(x, Wire.six(7, 50, 9, Wire.counting(104)));
        DUE.is("56", x.size(0), 76);
        DUE.is("and 48", x.size(1), 68);
        byte[] fragment = Wire.six(0, 44, 9, Wire.join(Wire.fragmentHeader(17, 100, true, 0x12345L), Wire.counting(64)));
        Wire.six(x, fragment);
        DUE.bytes("a fragment's first piece", Wire.part(x, 0), Wire.four(0, 0x2345, 0x2000 | 100, 8, 17, Wire.counting(56)));
        DUE.bytes("its last piece, with more", Wire.part(x, 1), Wire.four(0, 0x2345, 0x2000 | 107, 8, 17, Wire.slice(Wire.counting(64), 56, 64)));
        Wire.six(x, Wire.with(fragment, 42, 2, 100 << 3));
        DUE.bytes("a last fragment's last piece", Wire.part(x, 1), Wire.four(0, 0x2345, 107, 8, 17, Wire.slice(Wire.counting(64), 56, 64)));
        x.limits(68, 1280);
        byte[] longest = Wire.counting(2352);
        DUE.is("the longest", Wire.six(x, Wire.six(0, 44, 9, Wire.join(Wire.fragmentHeader(50, 0, false, 1), longest))), 0);
        byte[] joined = NOTHING;
        for (byte[] part : Wire.parts(x)) {
            joined = Wire.join(joined, Wire.slice(part, 20, part.length));
        }
        DUE.bytes("its pieces joined", joined, longest);
        Wire.six(x, Wire.six(0, 17, 9, Wire.udpSix(Wire.counting(80))));
        DUE.bytes("the sum is that of the whole", Wire.join(Wire.slice(Wire.part(x, 0), 20, 68),
            Wire.slice(Wire.part(x, 1), 20, x.size(1))), Wire.udpFour(Wire.counting(80)));
    }

    private static void echoes() {
        DUE.bytes("a request", out(Wire.six(0, 58, 64, Wire.messageSix(128, 0, 0x11220001, FIVE))),
            four(0, 63, 1, Wire.message(8, 0, 0x11220001, FIVE)));
        DUE.bytes("a reply, with a code", out(Wire.six(0, 58, 64, Wire.messageSix(129, 9, 0x11220001, FIVE))),
            four(0, 63, 1, Wire.message(0, 9, 0x11220001, FIVE)));
        byte[] four = out(Wire.six(0, 58, 64, Wire.with(Wire.messageSix(128, 0, 1, FIVE), 12, 1, 6)));
        DUE.is("a wrong sum stays wrong", Wire.sum(Wire.slice(four, 20, four.length)) != 65535, true);
        for (int type = 0; type < 256; type++) {
            int want = type == 128 || type == 129 ? 0 : type >= 1 && type <= 4 ? 8 : 6;
            DUE.is("type " + type, six(Wire.six(0, 58, 64, Wire.messageSix(type, 0, 0, NOTHING))), want);
        }
    }

    // ---- errors ----

    private static final byte[] HOST = Wire.known(Wire.HOST);
    private static final byte[] PEER = Wire.known(Wire.PEER);
    private static final byte[] SENT = Wire.six(0x33, 17, 9, PEER, HOST, Wire.udp(FIVE, true, PEER, HOST));
    private static final byte[] SENT_FOUR = Wire.four(0x33, 0, 0, 9, 17, Wire.PEER, Wire.HOST, NOTHING,
        Wire.udp(FIVE, false, Wire.number(Wire.PEER, 4), Wire.number(Wire.HOST, 4)));

    private static byte[] error(int type, int code, long second, byte[] inner) {
        return Wire.six(0, 58, 64, Wire.messageSix(type, code, second, inner));
    }

    private static void becomes(int type, int code, long second, int newType, int newCode, long newSecond) {
        DUE.bytes("error " + type + "/" + code, out(error(type, code, second, SENT)),
            four(0, 63, 1, Wire.message(newType, newCode, newSecond, SENT_FOUR)));
    }

    private static void errors() {
        becomes(1, 0, 0x01020304, 3, 1, 0);
        becomes(1, 1, 0x01020304, 3, 10, 0);
        becomes(1, 2, 0x01020304, 3, 1, 0);
        becomes(1, 3, 0x01020304, 3, 1, 0);
        becomes(1, 4, 0x01020304, 3, 3, 0);
        for (int code : new int[] {0, 1, 2, 200, 255}) {
            becomes(3, code, 0x01020304, 11, code, 0);
            becomes(2, code, 1400, 3, 4, 1380);
        }
        becomes(4, 1, 77, 3, 2, 0);
        for (int code = 5; code < 256; code++) {
            DUE.is("error 1/" + code, six(error(1, code, 0, SENT)), 8);
        }
        for (int code = 2; code < 256; code++) {
            DUE.is("error 4/" + code, six(error(4, code, 0, SENT)), 8);
        }
        byte[] spoilt = error(1, 1, 0, SENT);
        DUE.is("a wrong sum", six(Wire.with(spoilt, spoilt.length - 1, 1, 6)), 4);
        DUE.is("a wrong sum before the code", six(Wire.with(error(1, 9, 0, SENT), 42, 2, 0)), 4);
        DUE.is("another type with a wrong sum", six(Wire.with(error(5, 0, 0, SENT), 42, 2, 0)), 6);
        PacketTranslator x = new PacketTranslator();
        x.ways(false, true);
        Wire.six(x, error(1, 1, 0, SENT));
        DUE.is("the inner class is not kept", x.octet(0, 29), 0);
        DUE.is("the inner header's sum", x.check(0, 28, 48), 0);
    }

    private static int mtu(int mtu4, int mtu6, long told) {
        PacketTranslator x = new PacketTranslator();
        x.limits(mtu4, mtu6);
        DUE.is("error 2/0", Wire.six(x, error(2, 0, told, SENT)), 0);
        DUE.is("becomes 3/4", x.octet(0, 20) << 8 | x.octet(0, 21), 0x304);
        return x.parts() == 0 ? -1 : (int) Wire.quad(Wire.part(x, 0), 24);
    }

    private static void errorMtu() {
        DUE.is("that of the message less 20", mtu(1500, 1500, 1300), 1280);
        DUE.is("less than 20", mtu(1500, 1500, 5), 0);
        DUE.is("0", mtu(1500, 1500, 0), 0);
        DUE.is("20", mtu(1500, 1500, 20), 0);
        DUE.is("21", mtu(1500, 1500, 21), 1);
        DUE.is("not above MTU4", mtu(1400, 2000, 1421), 1400);
        DUE.is("not above MTU6 less 20", mtu(2000, 1500, 1501), 1480);
        DUE.is("without sign", mtu(1500, 1500, 0xffffffffL), 1480);
        DUE.is("without sign", mtu(1500, 1500, 0x80000000L), 1480);
    }

    private static void errorPointers() {
        int[] to = {0, 1, -1, -1, 2, 2, 9, 8};
        for (long pointer = 0; pointer < 300; pointer++) {
            int want = pointer < 8 ? to[(int) pointer] : pointer < 24 ? 12 : pointer < 40 ? 16 : -1;
            if (want == -1) {
                DUE.is("pointer " + pointer, six(error(4, 0, pointer, SENT)), 8);
            } else {
                becomes(4, 0, pointer, 12, 0, (long) want << 24);
            }
        }
        for (long pointer : new long[] {0x100, 0x10000, 0x1000000L, 0x80000000L, 0xffffffffL, 0xffffff00L}) {
            DUE.is("pointer " + pointer, six(error(4, 0, pointer, SENT)), 8);
        }
    }

    private static byte[] innerOf(byte[] inner) {
        byte[] four = out(error(1, 0, 0, inner));
        if (four.length < 48) {
            return NOTHING;
        }
        DUE.is("the message's sum", Wire.sum(Wire.slice(four, 20, four.length)), 65535);
        DUE.is("the inner header's sum", Wire.sum(Wire.slice(four, 28, 48)), 65535);
        return Wire.slice(four, 28, four.length);
    }

    private static byte[] innerFour(int ident, int flags, int protocol, byte[] payload) {
        return Wire.four(0, ident, flags, 9, protocol, Wire.PEER, Wire.HOST, NOTHING, payload);
    }

    private static byte[] innerSix(int next, byte[] rest) {
        return Wire.six(0, next, 9, PEER, HOST, rest);
    }

    private static void inner() {
        byte[] from = Wire.number(Wire.PEER, 4);
        byte[] to = Wire.number(Wire.HOST, 4);
        DUE.bytes("a header alone", innerOf(Wire.slice(SENT, 0, 40)), Wire.slice(SENT_FOUR, 0, 20));
        DUE.bytes("seven bytes of UDP", innerOf(Wire.slice(SENT, 0, 47)), Wire.join(Wire.slice(SENT_FOUR, 0, 20), Wire.slice(SENT, 40, 47)));
        DUE.bytes("eight bytes of UDP", innerOf(Wire.slice(SENT, 0, 48)), Wire.slice(SENT_FOUR, 0, 28));
        DUE.bytes("bytes behind its payload length", innerOf(Wire.join(SENT, FIVE)), SENT_FOUR);
        DUE.is("UDP without a sum", Wire.word(innerOf(Wire.with(SENT, 46, 2, 0)), 26), 0);
        byte[] tcp = Wire.tcp(FIVE, true, PEER, HOST);
        byte[] tcp4 = innerFour(0, 0, 6, Wire.tcp(FIVE, false, from, to));
        byte[] routed = innerSix(43, Wire.join(header(60, 1, 5), header(6, 0, 0), tcp));
        DUE.bytes("TCP behind headers, an open route", innerOf(routed), tcp4);
        DUE.bytes("seventeen bytes of TCP", innerOf(Wire.slice(routed, 0, 64 + 17)),
            Wire.join(Wire.slice(tcp4, 0, 20), Wire.slice(tcp, 0, 17)));
        DUE.bytes("eighteen bytes of TCP", innerOf(Wire.slice(routed, 0, 64 + 18)), Wire.slice(tcp4, 0, 38));
        DUE.is("hop limit 0", Wire.at(innerOf(Wire.with(SENT, 7, 1, 0)), 8), 0);
        byte[] echo = innerSix(58, Wire.messageSix(128, 3, 9, FIVE, PEER, HOST));
        byte[] echo4 = innerFour(0, 0, 1, Wire.message(8, 3, 9, FIVE));
        DUE.bytes("an echo", innerOf(echo), echo4);
        DUE.bytes("four bytes of an echo", innerOf(Wire.slice(echo, 0, 44)), Wire.slice(echo4, 0, 24));
        DUE.bytes("a reply", innerOf(innerSix(58, Wire.messageSix(129, 0, 9, FIVE, PEER, HOST))),
            innerFour(0, 0, 1, Wire.message(0, 0, 9, FIVE)));
        byte[] udp = Wire.slice(SENT, 40, 53);
        DUE.bytes("a first fragment, no multiple of 8", innerOf(innerSix(44, Wire.join(Wire.fragmentHeader(17, 0, true, 0x77771234L), udp))),
            innerFour(0x1234, 0x2000, 17, Wire.slice(SENT_FOUR, 20, 33)));
        DUE.bytes("a later fragment", innerOf(innerSix(44, Wire.join(Wire.fragmentHeader(17, 7, true, 3), udp))),
            innerFour(3, 0x2007, 17, udp));
        DUE.bytes("an echo with a 44 alone", innerOf(innerSix(44, Wire.join(Wire.fragmentHeader(58, 0, false, 3), Wire.slice(echo, 40, 53)))),
            innerFour(3, 0, 1, Wire.message(8, 3, 9, FIVE)));
        innerLengths();
        PacketTranslator x = new PacketTranslator();
        Wire.six(x, error(1, 0, 0, SENT));
        DUE.is("the counter goes on once", x.count(12), 1);
    }

    private static void innerLengths() {
        byte[] plain = Wire.slice(innerSix(50, NOTHING), 0, 40);
        DUE.is("1260 has no DF", Wire.quad(innerOf(Wire.with(plain, 4, 2, 1240)), 4), 0);
        DUE.is("1261 has DF", Wire.quad(innerOf(Wire.with(plain, 4, 2, 1241)), 4), 0x4000);
        DUE.is("its total length", Wire.word(innerOf(Wire.with(plain, 4, 2, 1241)), 2), 1261);
        DUE.is("the longest", Wire.word(innerOf(Wire.with(plain, 4, 2, 65515)), 2), 65535);
        DUE.is("longer", six(error(1, 0, 0, Wire.with(plain, 4, 2, 65516))), 8);
        byte[] cut = innerSix(44, Wire.fragmentHeader(50, 0, false, 0x8765L));
        DUE.is("a 44 has no DF", Wire.quad(innerOf(Wire.with(cut, 4, 2, 65523)), 4), 0x87650000L);
        DUE.is("longer", six(error(1, 0, 0, Wire.with(cut, 4, 2, 65524))), 8);
        byte[] far = innerSix(44, Wire.join(Wire.fragmentHeader(50, 8191, false, 1), Wire.counting(30)));
        DUE.is("a fragment that ends too far is not looked at", Wire.word(innerOf(far), 6), 8191);
    }

    private static void innerFaults() {
        for (int n = 0; n < 40; n++) {
            DUE.is("inner bytes " + n, six(error(1, 1, 0, Wire.slice(SENT, 0, n))), 8);
        }
        DUE.is("version 4", six(error(1, 1, 0, Wire.with(SENT, 0, 1, 0x43))), 8);
        byte[] chain = innerSix(60, Wire.join(header(50, 1, 0), FIVE));
        DUE.is("a header that is there", six(error(1, 1, 0, Wire.slice(chain, 0, 56))), 0);
        DUE.is("a header that is not all there", six(error(1, 1, 0, Wire.slice(chain, 0, 55))), 8);
        DUE.is("a header that is not there", six(error(1, 1, 0, Wire.slice(chain, 0, 40))), 8);
        DUE.is("a header of the payload's length", six(error(1, 1, 0, Wire.with(chain, 4, 2, 16))), 0);
        DUE.is("a header that is more than the payload length", six(error(1, 1, 0, Wire.with(chain, 4, 2, 15))), 8);
        byte[] twice = innerSix(44, Wire.join(Wire.fragmentHeader(44, 0, false, 1), Wire.fragmentHeader(17, 0, false, 1), FIVE));
        DUE.is("a second 44", six(error(1, 1, 0, twice)), 8);
        DUE.is("a source that is no image", six(error(1, 1, 0, Wire.with(SENT, 8, 1, 0x20))), 8);
        DUE.is("a target that is no image", six(error(1, 1, 0, Wire.with(SENT, 24, 1, 0x20))), 8);
        DUE.is("a source whose address is not mappable", six(error(1, 1, 0, Wire.with(SENT, 20, 1, 127))), 8);
        DUE.is("a target whose address is not mappable", six(error(1, 1, 0, Wire.with(SENT, 36, 1, 10))), 8);
        for (int protocol = 0; protocol < 256; protocol++) {
            boolean not = protocol == 0 || protocol == 1 || protocol == 2 || protocol == 43 || protocol == 44
                || protocol == 58 || protocol == 59 || protocol == 60;
            byte[] behind = innerSix(44, Wire.join(Wire.fragmentHeader(protocol, 1, false, 1), FIVE));
            DUE.is("inner protocol " + protocol, six(error(1, 1, 0, behind)), not ? 8 : 0);
        }
        byte[] echo = innerSix(58, Wire.messageSix(128, 0, 9, FIVE, PEER, HOST));
        DUE.is("three bytes of an echo", six(error(1, 1, 0, Wire.slice(echo, 0, 43))), 8);
        DUE.is("an echo that tells three bytes", six(error(1, 1, 0, Wire.with(echo, 4, 2, 3))), 8);
        DUE.is("an echo with more", six(error(1, 1, 0, innerSix(44, Wire.join(Wire.fragmentHeader(58, 0, true, 1), Wire.slice(echo, 40, 53))))), 8);
        for (int type = 0; type < 256; type++) {
            DUE.is("inner type " + type, six(error(3, 0, 0, Wire.with(echo, 40, 1, type))), type == 128 || type == 129 ? 0 : 8);
        }
    }

    private static void longErrors() {
        byte[] data = Wire.counting(1500);
        byte[] inner = innerSix(17, Wire.udp(data, true, PEER, HOST));
        byte[] inner4 = innerFour(0, 0x4000, 17, Wire.udp(data, false, Wire.number(Wire.PEER, 4), Wire.number(Wire.HOST, 4)));
        byte[] message = Wire.message(3, 3, 0, Wire.slice(inner4, 0, 548));
        DUE.bytes("an error of 576 bytes, no DF", out(error(1, 4, 0, inner)), four(0, 63, 1, message));
        byte[] fits = Wire.slice(inner, 0, 40 + 528);
        DUE.is("what makes 576 is not cut", out(error(1, 4, 0, fits)).length, 576);
        DUE.is("one byte less", out(error(1, 4, 0, Wire.slice(inner, 0, 40 + 527))).length, 575);
        PacketTranslator x = new PacketTranslator();
        x.limits(300, 1500);
        DUE.is("above MTU4", Wire.six(x, error(1, 4, 0, inner)), 0);
        DUE.is("it is split", x.parts(), 2);
        DUE.bytes("and is the same", Wire.join(Wire.slice(Wire.part(x, 0), 20, x.size(0)), Wire.slice(Wire.part(x, 1), 20, x.size(1))), message);
        DUE.is("with one identification", x.count(12), 1);
        byte[] headed = Wire.six(0, 44, 64, Wire.join(Wire.fragmentHeader(58, 0, false, 0x4321), Wire.messageSix(1, 4, 0, inner)));
        DUE.bytes("with a 44 alone", out(headed), Wire.four(0, 0x4321, 0, 63, 1, message));
    }

    // ---- answers ----

    private static void answers() {
        PacketTranslator x = new PacketTranslator();
        byte[] packet = Wire.six(0xff, 17, 1, Wire.udpSix(FIVE));
        DUE.is("hop limit 1", Wire.six(x, Wire.join(packet, FIVE)), 10);
        DUE.bytes("the answer", Wire.part(x, 0), Wire.six(0, 58, 64, OWN, HOST, Wire.messageSix(3, 0, 0, packet, OWN, HOST)));
        DUE.is("hop limit 0", Wire.six(x, Wire.with(packet, 7, 1, 0)), 10);
        DUE.is("hop limit 2", Wire.six(x, Wire.with(packet, 7, 1, 2)), 0);
        DUE.is("its TTL", x.octet(0, 8), 1);
        byte[] routed = Wire.six(0, 60, 64, Wire.join(header(43, 1, 9), header(43, 0, 0), header(43, 0, 1), header(50, 0, 2)));
        DUE.is("a route", Wire.six(x, routed), 10);
        DUE.bytes("the pointer to the first that is open", Wire.part(x, 0),
            Wire.six(0, 58, 64, OWN, HOST, Wire.messageSix(4, 0, 40 + 16 + 8 + 3, routed, OWN, HOST)));
        DUE.is("a route that is gone", Wire.six(x, Wire.six(0, 43, 64, header(50, 0, 0))), 0);
        DUE.is("a route of 255", Wire.six(x, Wire.six(0, 43, 64, header(50, 0, 255))), 10);
        DUE.is("a first fragment", Wire.six(x, Wire.six(0, 44, 1, Wire.fragmentHeader(17, 0, true, 1))), 10);
        byte[] large = Wire.six(0, 50, 1, Wire.counting(1193));
        DUE.is("a large one", Wire.six(x, large), 10);
        DUE.bytes("is cut at 1280", Wire.part(x, 0), Wire.six(0, 58, 64, OWN, HOST,
            Wire.messageSix(3, 0, 0, Wire.slice(large, 0, 1232), OWN, HOST)));
        Wire.six(x, Wire.six(0, 50, 1, Wire.counting(1192)));
        DUE.is("1280", x.size(0), 1280);
        Wire.six(x, Wire.six(0, 50, 1, Wire.counting(1191)));
        DUE.is("1279", x.size(0), 1279);
    }

    private static void noAnswers() {
        DUE.is("with an offset", six(Wire.six(0, 44, 1, Wire.join(Wire.fragmentHeader(17, 1, false, 1), FIVE))), 9);
        DUE.is("a route with an offset", six(Wire.six(0, 43, 64, Wire.join(header(44, 0, 1), Wire.fragmentHeader(17, 1, false, 1), FIVE))), 9);
        DUE.is("ICMPv6 without a byte", six(Wire.six(0, 58, 1, NOTHING)), 9);
        DUE.is("ICMPv6 without a byte, one behind it", six(Wire.join(Wire.six(0, 58, 1, NOTHING), Wire.hex("80"))), 9);
        DUE.is("ICMPv6 behind a header", six(Wire.six(0, 60, 1, Wire.join(header(58, 0, 0), Wire.hex("01")))), 9);
        for (int type = 0; type < 256; type++) {
            DUE.is("ICMPv6 of type " + type, six(Wire.six(0, 58, 1, Wire.number(type, 1))), type == 128 || type == 129 ? 10 : 9);
        }
        PacketTranslator x = new PacketTranslator();
        Wire.six(x, Wire.six(0, 58, 1, NOTHING));
        DUE.is("nothing comes out", x.parts(), 0);
    }
}
