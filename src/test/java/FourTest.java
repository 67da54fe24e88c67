/** Promise 8: packets from IPv4 (III, V, VII). */
public final class FourTest {
    private static final Due DUE = new Due();
    private static final byte[] FIVE = Wire.hex("0102030405");
    private static final byte[] NOTHING = new byte[0];

    public static void main(String[] args) {
        headers();
        otherPrefix();
        malformed();
        options();
        addresses();
        order();
        protocols();
        transports();
        unsummed();
        fragments();
        tooBig();
        splits();
        echoes();
        errors();
        errorMtu();
        errorPointers();
        inner();
        innerFaults();
        longErrors();
        answers();
        noAnswers();
        DUE.finish();
    }

    private static int four(byte[] packet) {
        return Wire.four(new PacketTranslator(), packet);
    }

    private static byte[] out(byte[] packet) {
        PacketTranslator x = new PacketTranslator();
        DUE.is(Wire.text(packet), Wire.four(x, packet), 0);
        DUE.is("one packet of " + Wire.text(packet), x.parts(), 1);
        return x.parts() == 0 ? NOTHING : Wire.part(x, 0);
    }

    /** The sum over the pseudo words and payload of an IPv6 packet without headers behind the first. */
    private static int sumOf(byte[] six) {
        byte[] payload = Wire.slice(six, 40, six.length);
        return Wire.sum(Wire.join(Wire.slice(six, 8, 40), Wire.number(payload.length, 4),
            Wire.number(six[6], 4), payload));
    }

    private static void headers() {
        DUE.bytes("UDP", out(Wire.hex("45280021 00070000 40118e46 c0000221 c6336402 12340035 000df80d 01020304 05")),
            Wire.hex("62800000 000d113f 0064ff9b 00000000 00000000 c0000221 0064ff9b 00000000 00000000 c6336402"
                + "12340035 000df80d 01020304 05"));
        byte[] tcp = out(Wire.four(0xff, 0, 0x4000, 255, 6, Wire.tcpFour(FIVE)));
        DUE.bytes("TCP's header", Wire.slice(tcp, 0, 8), Wire.hex("6ff00000 001906fe"));
        DUE.is("TCP's sum", sumOf(tcp), 65535);
        DUE.bytes("TCP but its sum", Wire.with(Wire.slice(tcp, 40, tcp.length), 16, 2, 0),
            Wire.with(Wire.tcpFour(FIVE), 16, 2, 0));
        DUE.bytes("another protocol, bytes behind the total length, no payload",
            out(Wire.join(Wire.four(0, 9, 0, 2, 50, NOTHING), FIVE)), Wire.six(0, 50, 1, NOTHING));
        DUE.bytes("another protocol is left as it is", out(Wire.four(0, 9, 0, 2, 132, Wire.counting(33))),
            Wire.six(0, 132, 1, Wire.counting(33)));
    }

    /** The images of 64:ff9b::/96 leave sums as they are; those of other prefixes do not. */
    private static void otherPrefix() {
        PacketTranslator x = new PacketTranslator();
        x.prefix(0x20010db801220300L, 0, 56);
        byte[] host = Wire.hex("20010db8012203c0 0000022100000000");
        byte[] peer = Wire.hex("20010db8012203c6 0033640200000000");
        Wire.four(x, Wire.four(0, 0, 0, 64, 17, Wire.udpFour(FIVE)));
        DUE.bytes("UDP in another prefix", Wire.part(x, 0), Wire.six(0, 17, 63, host, peer, Wire.udp(FIVE, true, host, peer)));
        Wire.four(x, Wire.four(0, 0, 0, 64, 17, Wire.with(Wire.udpFour(FIVE), 6, 2, 0)));
        DUE.bytes("UDP without a sum", Wire.part(x, 0), Wire.six(0, 17, 63, host, peer, Wire.udp(FIVE, true, host, peer)));
        Wire.four(x, Wire.four(0, 0, 0, 64, 6, Wire.tcpFour(FIVE)));
        DUE.bytes("TCP", Wire.part(x, 0), Wire.six(0, 6, 63, host, peer, Wire.tcp(FIVE, true, host, peer)));
        Wire.four(x, Wire.four(0, 0, 0, 64, 1, Wire.message(8, 0, 7, FIVE)));
        DUE.bytes("an echo", Wire.part(x, 0), Wire.six(0, 58, 63, host, peer, Wire.messageSix(128, 0, 7, FIVE, host, peer)));
        byte[] sent = Wire.six(0x33, 17, 9, peer, host, Wire.udp(FIVE, true, peer, host));
        Wire.four(x, error(3, 1, 0, SENT));
        DUE.bytes("an error", Wire.part(x, 0), Wire.six(0, 58, 63, host, peer, Wire.messageSix(1, 0, 0, sent, host, peer)));
        DUE.is("a private address there", Wire.four(x, Wire.four(0, 0, 0, 64, 50, 0x0a000001, 0xc0a80101, NOTHING, FIVE)), 0);
    }

    private static void malformed() {
        byte[] good = Wire.four(0, 0, 0, 64, 17, Wire.udpFour(FIVE));
        DUE.is("good", four(good), 0);
        for (int n = 0; n < good.length; n++) {
            DUE.is("the first " + n + " bytes", four(Wire.slice(good, 0, n)), 1);
        }
        for (int version = 0; version < 16; version++) {
            DUE.is("version " + version, four(Wire.fourWith(good, 0, 1, version << 4 | 5)), version == 4 ? 0 : 1);
        }
        for (int words = 0; words < 5; words++) {
            DUE.is("header of words " + words, four(Wire.fourWith(good, 0, 1, 0x40 | words)), 1);
        }
        DUE.is("header beyond the bytes", four(Wire.fourWith(good, 0, 1, 0x4f)), 1);
        DUE.is("total length below the header", four(Wire.fourWith(good, 2, 2, 19)), 1);
        DUE.is("total length of the header", four(Wire.fourWith(good, 2, 2, 20)), 4);
        DUE.is("total length beyond the bytes", four(Wire.fourWith(good, 2, 2, 34)), 1);
        for (int i = 0; i < 20; i++) {
            DUE.is("a wrong sum by byte " + i, four(Wire.with(good, i, 1, good[i] ^ 4)), 1);
        }
        DUE.is("a fragment up to 65535", four(Wire.four(0, 0, 8190, 64, 50, Wire.counting(15))), 0);
        DUE.is("a fragment beyond 65535", four(Wire.four(0, 0, 8190, 64, 50, Wire.counting(16))), 1);
        DUE.is("the last of all offsets", four(Wire.four(0, 0, 8191, 64, 50, Wire.counting(7))), 0);
        DUE.is("one byte too many behind it", four(Wire.four(0, 0, 0x2000 | 8191, 64, 50, Wire.counting(8))), 1);
    }

    private static int withOptions(String options) {
        return four(Wire.four(0, 0, 0, 64, 17, Wire.HOST, Wire.PEER, Wire.hex(options), Wire.udpFour(FIVE)));
    }

    private static void options() {
        DUE.is("ended", withOptions("00ffffff"), 0);
        DUE.is("ended behind bytes of one", withOptions("01010009"), 0);
        DUE.is("bytes of one up to the end", withOptions("01010101"), 0);
        DUE.is("up to the end", withOptions("0704aabb"), 0);
        DUE.is("of two bytes", withOptions("07020702"), 0);
        DUE.is("beyond the end", withOptions("07050000"), 1);
        DUE.is("far beyond the end", withOptions("07ff0000"), 1);
        DUE.is("without a length byte", withOptions("01010107"), 1);
        DUE.is("of length 1", withOptions("07010000"), 1);
        DUE.is("of length 0", withOptions("07000000"), 1);
        DUE.is("a loose route that is open", withOptions("83030300"), 10);
        DUE.is("a strict route that is open", withOptions("89030100"), 10);
        DUE.is("a route that is gone", withOptions("83030400"), 0);
        DUE.is("a strict route that is gone", withOptions("89030400"), 0);
        DUE.is("a route of two bytes", withOptions("83020000"), 0);
        DUE.is("a route behind the end of options", withOptions("00830303"), 0);
        DUE.is("a route behind another option", withOptions("0183070400000000"), 10);
        DUE.is("a route before a malformed option", withOptions("8303030000000000".substring(0, 6) + "0107090000"), 1);
        DUE.is("a recorded route", withOptions("07070400000000" + "00"), 0);
        byte[] many = Wire.filled(40, 1);
        DUE.bytes("sixty bytes of header are gone",
            out(Wire.four(0, 0, 0, 64, 50, Wire.HOST, Wire.PEER, many, FIVE)), Wire.six(0, 50, 63, FIVE));
    }

    private static int from(int source, int target) {
        return four(Wire.four(0, 0, 0, 64, 50, source, target, NOTHING, FIVE));
    }

    private static void addresses() {
        for (int bad : new int[] {0x00010203, 0x7f000001, 0xa9fe0001, 0xe0000001, 0xffffffff, 0x0a000001, 0xac1f0001,
            0xc0a80001}) {
            DUE.is("source " + Integer.toHexString(bad), from(bad, Wire.PEER), 2);
            DUE.is("target " + Integer.toHexString(bad), from(Wire.HOST, bad), 3);
            DUE.is("both " + Integer.toHexString(bad), from(bad, bad), 2);
        }
        DUE.is("others", from(0x01000000, 0xdfffffff), 0);
    }

    /** What is told first comes first. */
    private static void order() {
        byte[] route = Wire.hex("83030300");
        DUE.is("no address before a route", four(Wire.four(0, 0, 0, 1, 2, 1, Wire.PEER, route, NOTHING)), 2);
        DUE.is("no target before a route", four(Wire.four(0, 0, 0, 1, 2, Wire.HOST, 1, route, NOTHING)), 3);
        PacketTranslator x = new PacketTranslator();
        DUE.is("a route before TTL 1", Wire.four(x, Wire.four(0, 0, 0, 1, 2, Wire.HOST, Wire.PEER, route, NOTHING)), 10);
        DUE.is("its type and code", x.octet(0, 20) << 8 | x.octet(0, 21), 0x305);
        DUE.is("TTL 1 before the protocol", Wire.four(x, Wire.four(0, 0, 0, 1, 2, NOTHING)), 10);
        DUE.is("its type and code", x.octet(0, 20) << 8 | x.octet(0, 21), 0xb00);
        DUE.is("the protocol before fragments", four(Wire.four(0, 0, 0x2000, 64, 2, NOTHING)), 6);
        DUE.is("fragments before the length", four(Wire.four(0, 0, 0x2000, 64, 1, NOTHING)), 5);
        DUE.is("the length before the checksum", four(Wire.four(0, 0, 0x2000, 64, 17, Wire.filled(7, 0))), 4);
        DUE.is("the checksum before the length as IPv6",
            four(Wire.four(0, 0, 0x6000, 64, 17, Wire.filled(1600, 0))), 7);
        DUE.is("the length of a message before its type", four(Wire.four(0, 0, 0, 64, 1, Wire.filled(7, 77))), 4);
    }

    private static void protocols() {
        for (int protocol = 0; protocol < 256; protocol++) {
            boolean not = protocol == 0 || protocol == 2 || protocol == 43 || protocol == 44 || protocol == 58
                || protocol == 59 || protocol == 60;
            int want = not ? 6 : protocol == 1 || protocol == 6 || protocol == 17 ? 4 : 0;
            DUE.is("protocol " + protocol, four(Wire.four(0, 0, 0, 64, protocol, FIVE)), want);
            int behind = not ? 6 : protocol == 1 ? 5 : 0;
            DUE.is("with an offset, protocol " + protocol, four(Wire.four(0, 0, 3, 64, protocol, FIVE)), behind);
        }
    }

    private static void transports() {
        DUE.is("UDP of 8 bytes", four(Wire.four(0, 0, 0, 64, 17, Wire.udpFour(NOTHING))), 0);
        DUE.is("UDP of 7 bytes", four(Wire.four(0, 0, 0, 64, 17, Wire.hex("12340035000700"))), 4);
        DUE.is("TCP of 20 bytes", four(Wire.four(0, 0, 0, 64, 6, Wire.tcpFour(NOTHING))), 0);
        DUE.is("TCP of 19 bytes", four(Wire.four(0, 0, 0, 64, 6, Wire.filled(19, 0))), 4);
        DUE.is("first fragment, TCP of 19 bytes", four(Wire.four(0, 0, 0x2000, 64, 6, Wire.filled(19, 0))), 4);
        DUE.is("TCP of 8 bytes with an offset", four(Wire.four(0, 0, 1, 64, 6, Wire.filled(8, 0))), 0);
        DUE.is("ICMP of 8 bytes", four(Wire.four(0, 0, 0, 64, 1, Wire.message(8, 0, 0, NOTHING))), 0);
        DUE.is("ICMP of 7 bytes", four(Wire.four(0, 0, 0, 64, 1, Wire.filled(7, 0))), 4);
        byte[] udp = Wire.udpFour(FIVE);
        for (int length : new int[] {0, 8, 12, 14, 65535}) {
            byte[] wrong = Wire.with(udp, 4, 2, length);
            DUE.is("UDP that tells " + length, four(Wire.four(0, 0, 0, 64, 17, wrong)), 4);
            DUE.is("first fragment that tells " + length, four(Wire.four(0, 0, 0x2000, 64, 17, wrong)), 0);
        }
        byte[] rounded = Wire.tcpFour(Wire.hex("0000"));
        byte[] six = out(Wire.four(0, 0, 0, 64, 6, rounded));
        DUE.is("TCP's sum holds", sumOf(six), 65535);
        sumsThatAreZero();
    }

    /** A datagram whose adjusted sum is 0 bears 65535 in UDP, and 0 in TCP. */
    private static void sumsThatAreZero() {
        for (int protocol : new int[] {17, 6}) {
            int field = protocol == 17 ? 6 : 16;
            byte[] segment = Wire.with(Wire.filled(24, 0), 4, 2, 24);
            byte[] pseudo = Wire.pseudoSix(Wire.known(Wire.HOST), Wire.known(Wire.PEER), protocol, 24);
            byte[] zero = Wire.with(segment, 22, 2, Wire.checksum(Wire.join(pseudo, segment)));
            byte[] four = Wire.transport(protocol, zero, field, false, Wire.number(Wire.HOST, 4),
                Wire.number(Wire.PEER, 4));
            byte[] six = out(Wire.four(0, 0, 0, 64, protocol, four));
            DUE.is("protocol " + protocol + ": its sum 0", Wire.word(six, 40 + field), protocol == 17 ? 65535 : 0);
            if (protocol == 17) {
                byte[] unsummed = out(Wire.four(0, 0, 0, 64, 17, zero));
                DUE.is("UDP without a sum, whose sum is 0", Wire.word(unsummed, 46), 65535);
            }
        }
    }

    private static void unsummed() {
        byte[] udp = Wire.with(Wire.udpFour(FIVE), 6, 2, 0);
        byte[] six = out(Wire.four(0, 0, 0, 64, 17, udp));
        DUE.bytes("UDP without a sum gets one", Wire.slice(six, 40, six.length), Wire.udpSix(FIVE));
        DUE.is("a first fragment without a sum", four(Wire.four(0, 0, 0x2000, 64, 17, udp)), 7);
        DUE.is("a later fragment", four(Wire.four(0, 0, 0x2001, 64, 17, udp)), 0);
        PacketTranslator x = new PacketTranslator();
        x.ways(true, false);
        DUE.is("not let", Wire.four(x, Wire.four(0, 0, 0, 64, 17, udp)), 7);
        DUE.is("not let, a wrong length", Wire.four(x, Wire.four(0, 0, 0, 64, 17, Wire.join(udp, FIVE))), 4);
        DUE.is("not let, a first fragment", Wire.four(x, Wire.four(0, 0, 0x2000, 64, 17, udp)), 7);
        DUE.is("not let, a later fragment", Wire.four(x, Wire.four(0, 0, 2, 64, 17, udp)), 0);
        DUE.is("not let, with a sum", Wire.four(x, Wire.four(0, 0, 0, 64, 17, Wire.udpFour(FIVE))), 0);
        DUE.is("not let, TCP with sum 0", Wire.four(x, Wire.four(0, 0, 0, 64, 6, Wire.filled(20, 0))), 0);
    }

    private static void fragments() {
        byte[] udp = Wire.udpFour(Wire.counting(8));
        byte[] first = out(Wire.four(0, 0xabcd, 0x2000, 64, 17, udp));
        DUE.bytes("a first fragment", Wire.slice(first, 4, 8), Wire.hex("0018 2c 3f"));
        DUE.bytes("its fragment header", Wire.slice(first, 40, 48), Wire.hex("1100 0001 0000abcd"));
        DUE.bytes("its payload", Wire.slice(first, 48, 64), Wire.udpSix(Wire.counting(8)));
        byte[] later = out(Wire.four(0, 0xabcd, 0x2123, 64, 17, udp));
        DUE.bytes("a later fragment", Wire.slice(later, 40, 64), Wire.join(Wire.hex("1100 0919 0000abcd"), udp));
        byte[] last = out(Wire.four(0, 1, 0x4005, 64, 6, FIVE));
        DUE.bytes("a last fragment", Wire.slice(last, 40, 53), Wire.join(Wire.hex("0600 0028 00000001"), FIVE));
        byte[] whole = out(Wire.four(0, 0xabcd, 0x8000, 64, 17, udp));
        DUE.is("the highest flag makes no fragment", whole.length, 56);
    }

    private static void tooBig() {
        PacketTranslator x = new PacketTranslator();
        x.limits(1500, 1300);
        DUE.is("as long as MTU6", Wire.four(x, Wire.four(0, 0, 0x4000, 64, 50, Wire.counting(1260))), 0);
        DUE.is("one packet", x.parts(), 1);
        DUE.is("of that size", x.size(0), 1300);
        byte[] packet = Wire.four(0, 7, 0x4000, 64, 50, Wire.counting(1261));
        DUE.is("longer than MTU6", Wire.four(x, packet), 10);
        DUE.bytes("the answer", Wire.part(x, 0), Wire.four(0, 0, 0, 64, 1, 0xc0000201, Wire.HOST, NOTHING,
            Wire.message(3, 4, 1280, Wire.slice(packet, 0, 28))));
        DUE.is("a fragment as long", Wire.four(x, Wire.four(0, 0, 0x6000, 64, 50, Wire.counting(1252))), 0);
        DUE.is("of that size", x.size(0), 1300);
        DUE.is("a fragment too long", Wire.four(x, Wire.four(0, 0, 0x6000, 64, 50, Wire.counting(1253))), 10);
        DUE.is("its MTU", x.octet(0, 26) << 8 | x.octet(0, 27), 1280);
        DUE.is("a later fragment too long", Wire.four(x, Wire.four(0, 0, 0x6001, 64, 50, Wire.counting(1253))), 9);
        DUE.is("an echo too long", Wire.four(x, Wire.four(0, 0, 0x4000, 64, 1, Wire.message(8, 0, 0, Wire.counting(1253)))), 10);
        DUE.is("above 1280, with DF, not above MTU6", Wire.four(x, Wire.four(0, 0, 0x4000, 64, 50, Wire.counting(1250))), 0);
        DUE.is("is not split", x.parts(), 1);
    }

    private static void splits() {
        PacketTranslator x = new PacketTranslator();
        x.limits(1500, 2000);
        DUE.is("1280 bytes", Wire.four(x, Wire.four(0, 3, 0, 64, 50, Wire.counting(1240))), 0);
        DUE.bytes("are not split", Wire.part(x, 0), Wire.six(0, 50, 63, Wire.counting(1240)));
        byte[] data = Wire.counting(2380);
        DUE.is("the longest", Wire.four(x, Wire.four(0x11, 0xfedc, 0, 64, 50, data)), 0);
        DUE.is("is split in two", x.parts(), 2);
        DUE.bytes("the first piece", Wire.part(x, 0), Wire.six(0x11, 44, 63,
            Wire.join(Wire.fragmentHeader(50, 0, true, 0xfedc), Wire.slice(data, 0, 1232))));
        DUE.bytes("the last piece", Wire.part(x, 1), Wire.six(0x11, 44, 63,
            Wire.join(Wire.fragmentHeader(50, 154, false, 0xfedc), Wire.slice(data, 1232, 2380))));
        DUE.is("one byte above", Wire.four(x, Wire.four(0, 3, 0, 64, 50, Wire.counting(1241))), 0);
        DUE.is("is split in two", x.parts(), 2);
        DUE.is("the last piece has the rest", x.size(1), 48 + 9);
        DUE.is("a fragment of 1280", Wire.four(x, Wire.four(0, 3, 0x2000, 64, 50, Wire.counting(1232))), 0);
        DUE.is("is not split", x.parts(), 1);
        DUE.is("a fragment above", Wire.four(x, Wire.four(0, 3, 0x2000 | 100, 64, 50, Wire.counting(1240))), 0);
        DUE.is("is split in two", x.parts(), 2);
        DUE.bytes("the first piece's offset", Wire.slice(Wire.part(x, 0), 40, 48), Wire.fragmentHeader(50, 100, true, 3));
        DUE.bytes("the last piece's offset, and more", Wire.slice(Wire.part(x, 1), 40, 48), Wire.fragmentHeader(50, 254, true, 3));
        Wire.four(x, Wire.four(0, 3, 100, 64, 50, Wire.counting(1240)));
        DUE.bytes("the last piece of a last fragment", Wire.slice(Wire.part(x, 1), 40, 48), Wire.fragmentHeader(50, 254, false, 3));
        Wire.four(x, Wire.four(0, 3, 0, 64, 17, Wire.udpFour(Wire.counting(1300))));
        DUE.bytes("the sum is that of the whole", Wire.join(Wire.slice(Wire.part(x, 0), 48, 1280),
            Wire.slice(Wire.part(x, 1), 48, x.size(1))), Wire.udpSix(Wire.counting(1300)));
        Wire.four(x, Wire.four(0, 3, 0, 64, 1, Wire.message(8, 0, 5, Wire.counting(1300))));
        DUE.bytes("an echo is split", Wire.join(Wire.slice(Wire.part(x, 0), 48, 1280),
            Wire.slice(Wire.part(x, 1), 48, x.size(1))), Wire.messageSix(128, 0, 5, Wire.counting(1300)));
        DUE.is("its next header", x.octet(0, 40), 58);
    }

    private static void echoes() {
        DUE.bytes("a request", out(Wire.four(0, 0, 0, 64, 1, Wire.message(8, 0, 0x11220001, FIVE))),
            Wire.six(0, 58, 63, Wire.messageSix(128, 0, 0x11220001, FIVE)));
        DUE.bytes("a reply, with a code", out(Wire.four(0, 0, 0, 64, 1, Wire.message(0, 9, 0x11220001, FIVE))),
            Wire.six(0, 58, 63, Wire.messageSix(129, 9, 0x11220001, FIVE)));
        byte[] wrong = Wire.with(Wire.message(8, 0, 1, FIVE), 12, 1, 6);
        byte[] six = out(Wire.four(0, 0, 0, 64, 1, wrong));
        DUE.is("a wrong sum stays wrong", sumOf(six) != 65535, true);
        for (int type = 0; type < 256; type++) {
            int want = type == 0 || type == 8 ? 0 : type == 3 || type == 11 || type == 12 ? 8 : 6;
            DUE.is("type " + type, four(Wire.four(0, 0, 0, 64, 1, Wire.message(type, 0, 0, NOTHING))), want);
        }
    }

    // ---- errors ----

    private static final byte[] SENT = Wire.four(0x33, 3, 0, 9, 17, Wire.PEER, Wire.HOST, NOTHING,
        Wire.udp(FIVE, false, Wire.number(Wire.PEER, 4), Wire.number(Wire.HOST, 4)));
    private static final byte[] SENT_SIX = Wire.six(0x33, 17, 9, Wire.known(Wire.PEER), Wire.known(Wire.HOST),
        Wire.udp(FIVE, true, Wire.known(Wire.PEER), Wire.known(Wire.HOST)));

    private static byte[] error(int type, int code, long second, byte[] inner) {
        return Wire.four(0, 0, 0, 64, 1, Wire.message(type, code, second, inner));
    }

    private static void becomes(int type, int code, long second, int newType, int newCode, long newSecond) {
        DUE.bytes("error " + type + "/" + code, out(error(type, code, second, SENT)),
            Wire.six(0, 58, 63, Wire.messageSix(newType, newCode, newSecond, SENT_SIX)));
    }

    private static void errors() {
        for (int code : new int[] {0, 1, 5, 6, 7, 8, 11, 12}) {
            becomes(3, code, 0x01020304, 1, 0, 0);
        }
        becomes(3, 2, 0x01020304, 4, 1, 6);
        becomes(3, 3, 0x01020304, 1, 4, 0);
        for (int code : new int[] {9, 10, 13, 15}) {
            becomes(3, code, 0, 1, 1, 0);
        }
        for (int code : new int[] {0, 1, 2, 200, 255}) {
            becomes(11, code, 0x01020304, 3, code, 0);
        }
        for (int code = 14; code < 256; code += code == 14 ? 2 : 1) {
            DUE.is("error 3/" + code, four(error(3, code, 0, SENT)), 8);
        }
        for (int code = 0; code < 256; code++) {
            DUE.is("error 12/" + code, four(error(12, code, 0, SENT)), code == 0 || code == 2 ? 0 : 8);
        }
        byte[] spoilt = error(3, 1, 0, SENT);
        DUE.is("a wrong sum", four(Wire.with(spoilt, spoilt.length - 1, 1, 6)), 4);
        byte[] spoiltCode = Wire.with(error(3, 14, 0, SENT), 22, 2, 0);
        DUE.is("a wrong sum before the code", four(spoiltCode), 4);
        DUE.is("another type with a wrong sum", four(Wire.with(error(4, 0, 0, SENT), 22, 2, 0)), 6);
        PacketTranslator x = new PacketTranslator();
        x.ways(false, true);
        Wire.four(x, error(3, 1, 0, SENT));
        DUE.bytes("the inner class is not kept", Wire.slice(Wire.part(x, 0), 48, 52), Wire.hex("60000000"));
    }

    private static int mtu(int mtu4, int mtu6, int told, int innerTotal) {
        PacketTranslator x = new PacketTranslator();
        x.limits(mtu4, mtu6);
        byte[] inner = Wire.fourWith(SENT, 2, 2, innerTotal);
        DUE.is("error 3/4", Wire.four(x, error(3, 4, 0x77770000L | told, inner)), 0);
        DUE.is("becomes 2/0", x.octet(0, 40) << 8 | x.octet(0, 41), 0x200);
        return x.parts() == 0 ? -1 : (int) Wire.quad(Wire.part(x, 0), 44);
    }

    private static void errorMtu() {
        DUE.is("that of the message and 20", mtu(1500, 1500, 1300, 33), 1320);
        DUE.is("not above MTU6", mtu(2000, 1500, 1481, 33), 1500);
        DUE.is("up to MTU6", mtu(2000, 1500, 1480, 33), 1500);
        DUE.is("not above MTU4 and 20", mtu(1400, 2000, 65535, 33), 1420);
        DUE.is("not below 1280", mtu(1500, 1500, 1259, 33), 1280);
        DUE.is("1280", mtu(1500, 1500, 1260, 33), 1280);
        DUE.is("one above 1280", mtu(1500, 1500, 1261, 33), 1281);
        DUE.is("not below 1280, for all MTU4", mtu(68, 1500, 1400, 33), 1280);
        DUE.is("a plateau below 33", mtu(2000, 2000, 0, 33), 1280);
        DUE.is("a plateau below 1492", mtu(2000, 2000, 0, 1492), 1280);
        DUE.is("a plateau below 1493", mtu(2000, 2000, 0, 1493), 1512);
        DUE.is("a plateau below 2002", mtu(2000, 2000, 0, 2002), 1512);
        DUE.is("a plateau below 2003", mtu(2000, 2000, 0, 2003), 2000);
        DUE.is("a plateau below 65535", mtu(2000, 2000, 0, 65535), 2000);
    }

    private static void errorPointers() {
        int[] to = {0, 1, 4, 4, -1, -1, -1, -1, 7, 6, -1, -1, 8, 8, 8, 8, 24, 24, 24, 24};
        for (int pointer = 0; pointer < 256; pointer++) {
            int want = pointer < to.length ? to[pointer] : -1;
            for (int code = 0; code <= 2; code += 2) {
                if (want == -1) {
                    DUE.is("pointer " + pointer, four(error(12, code, (long) pointer << 24, SENT)), 8);
                } else {
                    becomes(12, code, (long) pointer << 24 | 0x123456, 4, 0, want);
                }
            }
        }
    }

    private static byte[] innerOf(byte[] inner) {
        byte[] six = out(error(3, 1, 0, inner));
        DUE.is("the message's sum", sumOf(six), 65535);
        return six.length < 48 ? NOTHING : Wire.slice(six, 48, six.length);
    }

    private static void inner() {
        byte[] from = Wire.number(Wire.PEER, 4);
        byte[] to = Wire.number(Wire.HOST, 4);
        byte[] from6 = Wire.known(Wire.PEER);
        byte[] to6 = Wire.known(Wire.HOST);
        DUE.bytes("a header alone", innerOf(Wire.slice(SENT, 0, 20)), Wire.slice(SENT_SIX, 0, 40));
        DUE.bytes("seven bytes of UDP", innerOf(Wire.slice(SENT, 0, 27)), Wire.join(Wire.slice(SENT_SIX, 0, 40), Wire.slice(SENT, 20, 27)));
        DUE.bytes("eight bytes of UDP", innerOf(Wire.slice(SENT, 0, 28)), Wire.slice(SENT_SIX, 0, 48));
        DUE.bytes("bytes behind its total length", innerOf(Wire.join(SENT, FIVE)), SENT_SIX);
        byte[] unsummed = Wire.with(SENT, 26, 2, 0);
        DUE.is("UDP without a sum", Wire.word(innerOf(unsummed), 46), 0);
        byte[] tcp = Wire.four(0, 0, 0, 0, 6, Wire.PEER, Wire.HOST, Wire.hex("83030300"), Wire.tcp(FIVE, false, from, to));
        byte[] tcp6 = Wire.six(0, 6, 0, from6, to6, Wire.tcp(FIVE, true, from6, to6));
        DUE.bytes("TCP, TTL 0, an open route", innerOf(tcp), tcp6);
        DUE.bytes("seventeen bytes of TCP", innerOf(Wire.slice(tcp, 0, 41)),
            Wire.join(Wire.slice(tcp6, 0, 40), Wire.slice(tcp, 24, 41)));
        DUE.bytes("eighteen bytes of TCP", innerOf(Wire.slice(tcp, 0, 42)), Wire.slice(tcp6, 0, 58));
        byte[] echo = Wire.four(0, 0, 0, 7, 1, Wire.PEER, Wire.HOST, NOTHING, Wire.message(8, 3, 9, FIVE));
        byte[] echo6 = Wire.six(0, 58, 7, from6, to6, Wire.messageSix(128, 3, 9, FIVE, from6, to6));
        DUE.bytes("an echo", innerOf(echo), echo6);
        DUE.bytes("four bytes of an echo", innerOf(Wire.slice(echo, 0, 24)), Wire.slice(echo6, 0, 44));
        byte[] reply = Wire.four(0, 0, 0, 7, 1, Wire.PEER, Wire.HOST, NOTHING, Wire.message(0, 0, 9, FIVE));
        DUE.bytes("a reply", innerOf(reply),
            Wire.six(0, 58, 7, from6, to6, Wire.messageSix(129, 0, 9, FIVE, from6, to6)));
        byte[] first = Wire.fourWith(SENT, 6, 2, 0x2000);
        DUE.bytes("a first fragment", innerOf(first), Wire.six(0x33, 44, 9, from6, to6,
            Wire.join(Wire.fragmentHeader(17, 0, true, 3), Wire.slice(SENT_SIX, 40, 53))));
        byte[] later = Wire.fourWith(SENT, 6, 2, 0x6007);
        DUE.bytes("a later fragment", innerOf(later), Wire.six(0x33, 44, 9, from6, to6,
            Wire.join(Wire.fragmentHeader(17, 7, true, 3), Wire.slice(SENT, 20, 33))));
        byte[] far = Wire.fourWith(Wire.fourWith(SENT, 6, 2, 8191), 2, 2, 65535);
        DUE.is("a fragment that ends too far is not looked at", Wire.word(innerOf(far), 4), 65523);
        DUE.is("a wrong sum of the inner header", four(error(3, 1, 0, Wire.with(SENT, 10, 2, 1))), 0);
        DUE.is("a wrong length of inner UDP", four(error(3, 1, 0, Wire.with(SENT, 24, 2, 1))), 0);
        DUE.is("a malformed option", four(error(3, 1, 0,
            Wire.four(0, 0, 0, 9, 50, Wire.PEER, Wire.HOST, Wire.hex("07010000"), FIVE))), 0);
    }

    private static void innerFaults() {
        for (int n = 0; n < 20; n++) {
            DUE.is("inner bytes " + n, four(error(3, 1, 0, Wire.slice(SENT, 0, n))), 8);
        }
        byte[] options = Wire.four(0, 0, 0, 9, 50, Wire.PEER, Wire.HOST, Wire.filled(8, 1), NOTHING);
        DUE.is("options that are not all there", four(error(3, 1, 0, Wire.slice(options, 0, 27))), 8);
        DUE.is("options that are there", four(error(3, 1, 0, options)), 0);
        DUE.is("version 6", four(error(3, 1, 0, Wire.with(SENT, 0, 1, 0x65))), 8);
        DUE.is("a header of 16", four(error(3, 1, 0, Wire.with(SENT, 0, 1, 0x44))), 8);
        DUE.is("a total length below the header", four(error(3, 1, 0, Wire.with(SENT, 2, 2, 19))), 8);
        DUE.is("a total length of the header", four(error(3, 1, 0, Wire.with(SENT, 2, 2, 20))), 0);
        DUE.is("a source that is not mappable", four(error(3, 1, 0, Wire.with(SENT, 12, 4, 0x7f010101))), 8);
        DUE.is("a target that is not mappable", four(error(3, 1, 0, Wire.with(SENT, 16, 4, 0x0a010101))), 8);
        for (int protocol = 0; protocol < 256; protocol++) {
            boolean not = protocol == 0 || protocol == 2 || protocol == 43 || protocol == 44 || protocol == 58
                || protocol == 59 || protocol == 60 || protocol == 1;
            DUE.is("inner protocol " + protocol, four(error(3, 1, 0, Wire.with(SENT, 9, 1, protocol))), not ? 8 : 0);
        }
        byte[] echo = Wire.four(0, 0, 0, 7, 1, Wire.PEER, Wire.HOST, NOTHING, Wire.message(8, 0, 9, FIVE));
        DUE.is("three bytes of an echo", four(error(3, 1, 0, Wire.slice(echo, 0, 23))), 8);
        DUE.is("an echo that tells three bytes", four(error(3, 1, 0, Wire.fourWith(echo, 2, 2, 23))), 8);
        DUE.is("an echo with more", four(error(3, 1, 0, Wire.fourWith(echo, 6, 2, 0x2000))), 8);
        DUE.is("an echo with an offset", four(error(3, 1, 0, Wire.fourWith(echo, 6, 2, 1))), 8);
        DUE.is("an error in an error", four(error(3, 1, 0, error(3, 1, 0, SENT))), 8);
        for (int type = 0; type < 256; type++) {
            DUE.is("inner type " + type, four(error(11, 0, 0, Wire.with(echo, 20, 1, type))), type == 8 || type == 0 ? 0 : 8);
        }
    }

    private static void longErrors() {
        byte[] from6 = Wire.known(Wire.PEER);
        byte[] to6 = Wire.known(Wire.HOST);
        byte[] data = Wire.counting(2300);
        byte[] inner = Wire.four(0, 0, 0x4000, 9, 17, Wire.PEER, Wire.HOST, NOTHING,
            Wire.udp(data, false, Wire.number(Wire.PEER, 4), Wire.number(Wire.HOST, 4)));
        byte[] inner6 = Wire.six(0, 17, 9, from6, to6, Wire.udp(data, true, from6, to6));
        DUE.bytes("an error of 1280 bytes, without DF", out(error(3, 3, 0, inner)),
            Wire.six(0, 58, 63, Wire.messageSix(1, 4, 0, Wire.slice(inner6, 0, 1232))));
        DUE.bytes("with DF", out(Wire.fourWith(error(3, 3, 0, inner), 6, 2, 0x4000)),
            Wire.six(0, 58, 63, Wire.messageSix(1, 4, 0, Wire.slice(inner6, 0, 1232))));
        byte[] fits = Wire.fourWith(Wire.slice(inner, 0, 20 + 1192), 2, 2, 20 + 2308);
        DUE.is("what makes 1280 is not cut", out(error(3, 3, 0, fits)).length, 1280);
        byte[] piece = Wire.fourWith(inner, 6, 2, 0x2000);
        byte[] six = out(error(11, 1, 0, piece));
        DUE.is("a fragment in it is cut likewise", six.length, 1280);
        DUE.bytes("its end", Wire.slice(six, 1270, 1280), Wire.slice(data, 1280 - 10 - 104, 1280 - 104));
    }

    // ---- answers ----

    private static void answers() {
        PacketTranslator x = new PacketTranslator();
        byte[] packet = Wire.four(0xff, 7, 0x4000, 1, 17, Wire.udpFour(FIVE));
        DUE.is("TTL 1", Wire.four(x, packet), 10);
        DUE.bytes("the answer", Wire.part(x, 0), Wire.four(0, 0, 0, 64, 1, 0xc0000201, Wire.HOST, NOTHING,
            Wire.message(11, 0, 0, Wire.slice(packet, 0, 28))));
        DUE.is("TTL 0", Wire.four(x, Wire.fourWith(packet, 8, 1, 0)), 10);
        DUE.is("TTL 2", Wire.four(x, Wire.fourWith(packet, 8, 1, 2)), 0);
        DUE.is("its hop limit", x.octet(0, 7), 1);
        byte[] routed = Wire.four(0, 0, 0, 64, 50, Wire.HOST, Wire.PEER, Wire.hex("0183070400000000"), FIVE);
        DUE.is("a route", Wire.four(x, Wire.join(routed, FIVE)), 10);
        DUE.bytes("the header with its options, and what there is", Wire.part(x, 0), Wire.four(0, 0, 0, 64, 1,
            0xc0000201, Wire.HOST, NOTHING, Wire.message(3, 5, 0, routed)));
        byte[] alone = Wire.four(0, 0, 0, 1, 50, NOTHING);
        DUE.is("a header alone", Wire.four(x, alone), 10);
        DUE.is("its answer", x.size(0), 48);
        DUE.is("a first fragment", Wire.four(x, Wire.four(0, 0, 0x2000, 1, 17, NOTHING)), 10);
    }

    private static void noAnswers() {
        DUE.is("with an offset", four(Wire.four(0, 0, 1, 1, 17, FIVE)), 9);
        DUE.is("a route with an offset", four(Wire.four(0, 0, 1, 64, 17, Wire.HOST, Wire.PEER, Wire.hex("83030300"), FIVE)), 9);
        DUE.is("ICMP with an offset", four(Wire.four(0, 0, 1, 1, 1, Wire.hex("08"))), 9);
        DUE.is("ICMP without a byte", four(Wire.four(0, 0, 0, 1, 1, NOTHING)), 9);
        DUE.is("ICMP without a byte, one behind it", four(Wire.join(Wire.four(0, 0, 0, 1, 1, NOTHING), Wire.hex("08"))), 9);
        for (int type = 0; type < 256; type++) {
            DUE.is("ICMP of type " + type, four(Wire.four(0, 0, 0, 1, 1, Wire.number(type, 1))), type == 8 || type == 0 ? 10 : 9);
        }
        PacketTranslator x = new PacketTranslator();
        Wire.four(x, Wire.four(0, 0, 1, 1, 17, FIVE));
        DUE.is("nothing comes out", x.parts(), 0);
    }
}
