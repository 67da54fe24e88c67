import java.util.Arrays;
import java.util.Random;

/** Many packets, well made and spoilt, under many settings: the program against the model, byte for byte. */
public final class ModelTest {
    private static final int[] ADDRESSES = {
        0xc0000221, 0xc6336402, 0x08080808, 0x01000000, 0xdfffffff, 0xa9fd0101, 0xa9ff0101, 0x80000001, 0x7effffff,
        0xac0fffff, 0xac200000, 0xc0a70101, 0xc0a90101, 0x0b000000, 0x09ffffff};
    private static final int[] ODD_ADDRESSES = {
        0, 0x00ffffff, 0x7f000001, 0x7fffffff, 0xa9fe0000, 0xa9feffff, 0xe0000000, 0xffffffff, 0x0a000001, 0xac100000,
        0xac1fffff, 0xc0a80001, 0xc0a8ffff};
    private static final int[] PROTOCOLS = {17, 17, 17, 6, 6, 1, 58, 50, 0, 2, 43, 44, 59, 60, 47, 255};
    private static final int[] SIZES = {
        0, 1, 3, 4, 7, 8, 9, 16, 17, 18, 19, 20, 21, 24, 40, 48, 49, 56, 100, 548, 556, 1232, 1233, 1239, 1240, 1241,
        1248, 1260, 1280, 1452, 1459, 1460, 1480, 1481, 2000, 2340, 2352, 2360, 2380};

    private static final Random DICE = new Random(7915);
    private static final Due DUE = new Due();
    private static final int[] SEEN_FOUR = new int[11];
    private static final int[] SEEN_SIX = new int[11];
    private static int splits = 0;

    public static void main(String[] args) {
        for (int round = 0; round < 3000; round++) {
            PacketTranslator x = new PacketTranslator();
            Model model = new Model();
            for (int k = 0; k < 40; k++) {
                if (DICE.nextInt(4) == 0) {
                    change(x, model);
                }
                step(x, model, round);
            }
        }
        for (int why = 0; why <= 10; why++) {
            DUE.is("the packets from IPv4 reach verdict " + why, SEEN_FOUR[why] > 50, true);
            DUE.is("the packets from IPv6 reach verdict " + why, SEEN_SIX[why] > 50, true);
        }
        DUE.is("many packets are split", splits > 500, true);
        DUE.finish();
    }

    private static void step(PacketTranslator x, Model model, int round) {
        boolean six = DICE.nextBoolean();
        byte[] packet = DICE.nextInt(5) == 0 ? spoilt(packet(model, six)) : packet(model, six);
        if (packet.length > 2400) {
            packet = Wire.slice(packet, 0, 2400);
        }
        Wire.feed(x, packet);
        int want = six ? model.six(packet) : model.four(packet);
        int got = six ? x.six() : x.four();
        (six ? SEEN_SIX : SEEN_FOUR)[want]++;
        splits += model.out.size() > 1 ? 1 : 0;
        boolean same = got == want && x.parts() == model.out.size() && x.count(12) == model.counter;
        for (int k = 0; same && k < model.out.size(); k++) {
            same = Arrays.equals(Wire.part(x, k), model.out.get(k));
        }
        // The text is made only where it is wanted: it would cost more than all the rest.
        DUE.is(same ? "" : told(x, model, "round " + round + (six ? ": six of " : ": four of ") + Wire.text(packet)
            + ": " + got + ", due is " + want), same, true);
    }

    private static String told(PacketTranslator x, Model model, String what) {
        StringBuilder all = new StringBuilder(what);
        for (byte[] part : Wire.parts(x)) {
            all.append("\n  got ").append(Wire.text(part));
        }
        for (byte[] part : model.out) {
            all.append("\n  due ").append(Wire.text(part));
        }
        return all.append("\n  as the model").toString();
    }

    private static int one(int... of) {
        return of[DICE.nextInt(of.length)];
    }

    private static boolean rarely() {
        return DICE.nextInt(12) == 0;
    }

    private static byte[] noise(int n) {
        byte[] bytes = new byte[n];
        DICE.nextBytes(bytes);
        return bytes;
    }

    private static void change(PacketTranslator x, Model model) {
        switch (DICE.nextInt(4)) {
            case 0:
                model.prefixBits = one(32, 40, 48, 56, 64, 96, 96, 96);
                if (DICE.nextInt(3) == 0) {
                    model.prefixHigh = Wire.WELL_KNOWN;
                    model.prefixLow = 0;
                } else {
                    model.prefixHigh = 0x20010db801220344L & (model.prefixBits >= 64 ? -1L : -1L << 64 - model.prefixBits);
                    model.prefixLow = model.prefixBits == 96 ? (DICE.nextInt() & 0xffffffL) << 32 : 0;
                }
                x.prefix(model.prefixHigh, model.prefixLow, model.prefixBits);
                break;
            case 1:
                model.mtu4 = one(68, 69, 75, 76, 100, 575, 576, 1259, 1260, 1261, 1280, 1500, 2000);
                model.mtu6 = one(1280, 1281, 1500, 1520, 2000);
                x.limits(model.mtu4, model.mtu6);
                break;
            case 2:
                model.kept = DICE.nextBoolean();
                model.let = DICE.nextInt(3) != 0;
                x.ways(model.kept, model.let);
                break;
            default:
                model.ownFour = DICE.nextInt();
                model.ownSix = noise(16);
                x.own(model.ownFour, Wire.wide(model.ownSix, 0), Wire.wide(model.ownSix, 8));
        }
    }

    private static byte[] spoilt(byte[] packet) {
        if (packet.length == 0) {
            return packet;
        }
        switch (DICE.nextInt(4)) {
            case 0:
                return Wire.slice(packet, 0, DICE.nextInt(packet.length + 1));
            case 1:
                return Wire.join(packet, noise(DICE.nextInt(30)));
            case 2:
                return Wire.with(packet, DICE.nextInt(packet.length), 1, DICE.nextInt(256));
            default:
                byte[] changed = Wire.with(packet, DICE.nextInt(Math.min(packet.length, 60)), 1, DICE.nextInt(256));
                return changed.length >= 20 ? Wire.fourWith(changed, 1, 1, changed[1]) : changed;
        }
    }

    private static int address() {
        return rarely() ? one(ODD_ADDRESSES) : one(ADDRESSES);
    }

    private static int size() {
        return DICE.nextInt(3) == 0 ? DICE.nextInt(100) : one(SIZES);
    }

    private static byte[] packet(Model model, boolean six) {
        return six ? sixPacket(model, true) : fourPacket(model, true);
    }

    // ---- IPv4 ----

    private static byte[] fourPacket(Model model, boolean outer) {
        int source = address();
        int target = address();
        int protocol = one(PROTOCOLS);
        if (DICE.nextInt(3) == 0) {
            protocol = 1;
        }
        byte[] options = options();
        int room = 2400 - 20 - options.length;
        byte[] payload = fourPayload(model, protocol, Math.min(size(), room), source, target, outer);
        payload = Wire.slice(payload, 0, Math.min(payload.length, room));
        byte[] packet = Wire.four(DICE.nextInt(256), DICE.nextInt(65536), flags(), ttl(), protocol, source, target,
            options, payload);
        return rarely() ? Wire.fourWith(packet, 2, 2, one(0, 19, 20, 24, 60, packet.length - 1, packet.length + 1, 65535))
            : packet;
    }

    private static int flags() {
        int df = DICE.nextBoolean() ? 0x4000 : 0;
        switch (DICE.nextInt(8)) {
            case 0:
                return df | 0x2000;
            case 1:
                return df | one(1, 5, 185, 7000, 8191);
            case 2:
                return df | 0x2000 | one(1, 5, 185, 7000, 8191);
            default:
                return df;
        }
    }

    private static int ttl() {
        return rarely() ? one(0, 1) : one(2, 64, 255);
    }

    private static byte[] options() {
        switch (DICE.nextInt(20)) {
            case 0:
                return Wire.hex(DICE.nextBoolean() ? "83030300" : "83030400");
            case 1:
                return Wire.hex(DICE.nextBoolean() ? "0189030100000000" : "8907040a00000100");
            case 2:
                return Wire.hex(DICE.nextBoolean() ? "01010183" : "83028303");
            case 3:
                return Wire.hex(DICE.nextBoolean() ? "07010000" : "07000000");
            case 4:
                return Wire.hex(DICE.nextBoolean() ? "00830303" : "94040000");
            case 5:
                return noise(4 * (1 + DICE.nextInt(10)));
            default:
                return new byte[0];
        }
    }

    private static byte[] fourPayload(Model model, int protocol, int size, int source, int target, boolean outer) {
        byte[] data = noise(size);
        byte[] s = Wire.number(source, 4);
        byte[] t = Wire.number(target, 4);
        if (rarely()) {
            return data;
        }
        if (protocol == 17) {
            byte[] datagram = Wire.udp(data, false, s, t);
            return DICE.nextInt(5) == 0 ? Wire.with(datagram, 6, 2, one(0, 0, 65535, 1)) : datagram;
        }
        if (protocol == 6) {
            return Wire.tcp(data, false, s, t);
        }
        if (protocol != 1) {
            return data;
        }
        int type = one(0, 8, 8, 3, 3, 11, 12, 5, 13);
        int code = type == 3 ? DICE.nextInt(17) : one(0, 0, 0, 2, 1);
        long second = type == 12 ? (long) DICE.nextInt(22) << 24 : type == 3 ? one(0, 0, 68, 1259, 1260, 1480, 65535)
            : DICE.nextInt();
        byte[] rest = outer && type != 0 && type != 8 ? inner(fourPacket(model, false)) : data;
        byte[] message = Wire.message(type, code, second, rest);
        return rarely() ? Wire.with(message, 2, 2, DICE.nextInt(65536)) : message;
    }

    private static byte[] inner(byte[] whole) {
        switch (DICE.nextInt(4)) {
            case 0:
                return Wire.slice(whole, 0, Math.min(whole.length, one(0, 19, 20, 23, 24, 27, 28, 37, 38, 40, 43, 44, 48, 57, 58)));
            case 1:
                return Wire.join(whole, noise(DICE.nextInt(9)));
            case 2:
                return rarely() ? spoilt(whole) : whole;
            default:
                return whole;
        }
    }

    // ---- IPv6 ----

    private static byte[] sixPacket(Model model, boolean outer) {
        byte[] source = sixAddress(model);
        byte[] target = sixAddress(model);
        int protocol = one(PROTOCOLS);
        if (DICE.nextInt(3) == 0) {
            protocol = 58;
        }
        byte[] payload = sixPayload(model, protocol, size(), source, target, outer);
        int next = protocol;
        for (int k = one(0, 0, 0, 1, 1, 2); k > 0; k--) {
            int kind = one(0, 43, 60, 44, 44, 44);
            if (kind == 44) {
                boolean more = DICE.nextInt(3) == 0;
                int offset = DICE.nextInt(3) == 0 ? one(1, 5, 8000, 8190, 8191) : 0;
                if (more && DICE.nextInt(4) != 0) {
                    payload = Wire.slice(payload, 0, payload.length / 8 * 8);
                }
                payload = Wire.join(Wire.fragmentHeader(next, offset, more, DICE.nextInt()), payload);
            } else {
                int units = one(0, 0, 1, 2);
                byte[] header = Wire.with(Wire.filled(8 + 8 * units, 0), 0, 2, next << 8 | (rarely() ? 255 : units));
                payload = Wire.join(kind == 43 ? Wire.with(header, 3, 1, one(0, 0, 0, 1, 255)) : header, payload);
            }
            next = kind;
        }
        payload = Wire.slice(payload, 0, Math.min(payload.length, 2360));
        byte[] packet = Wire.six(DICE.nextInt(256), next, ttl(), source, target, payload);
        packet = Wire.with(packet, 2, 2, DICE.nextInt(65536));
        return rarely() ? Wire.with(packet, 4, 2, one(0, 7, 8, payload.length + 1, Math.max(0, payload.length - 1), 65515, 65516, 65535))
            : packet;
    }

    private static byte[] sixAddress(Model model) {
        byte[] image = model.image(address());
        return rarely() ? Wire.with(image, DICE.nextInt(16), 1, DICE.nextInt(256)) : image;
    }

    private static byte[] sixPayload(Model model, int protocol, int size, byte[] source, byte[] target, boolean outer) {
        byte[] data = noise(size);
        if (rarely()) {
            return data;
        }
        if (protocol == 17) {
            byte[] datagram = Wire.udp(data, true, source, target);
            return rarely() ? Wire.with(datagram, 6, 2, one(0, 65535, 1)) : datagram;
        }
        if (protocol == 6) {
            return Wire.tcp(data, true, source, target);
        }
        if (protocol != 58) {
            return data;
        }
        int type = one(128, 128, 129, 1, 1, 2, 3, 4, 4, 133, 0);
        int code = type == 1 ? DICE.nextInt(7) : one(0, 0, 0, 1, 2);
        long second = type == 4 ? DICE.nextInt(42) : type == 2 ? one(0, 19, 20, 21, 1280, 1500, 1520, 70000, -1)
            : DICE.nextInt();
        byte[] rest = outer && type < 128 ? inner6(sixPacket(model, false)) : data;
        byte[] message = Wire.messageSix(type, code, second, rest, source, target);
        return rarely() ? Wire.with(message, 2, 2, DICE.nextInt(65536)) : message;
    }

    private static byte[] inner6(byte[] whole) {
        switch (DICE.nextInt(4)) {
            case 0:
                return Wire.slice(whole, 0, Math.min(whole.length, one(0, 39, 40, 43, 44, 47, 48, 55, 56, 57, 58, 63, 64, 66)));
            case 1:
                return Wire.join(whole, noise(DICE.nextInt(9)));
            case 2:
                return rarely() ? Wire.with(whole, DICE.nextInt(40), 1, DICE.nextInt(256)) : whole;
            default:
                return whole;
        }
    }
}
