import java.util.ArrayList;
import java.util.List;

/**
 * The document once more, as plainly as it can be written down and with no care for room: the program's
 * answers are held against it. Words are listed and summed as the document tells; nothing is shared with the program.
 */
final class Model {
    long prefixHigh = 0x0064ff9b00000000L;
    long prefixLow = 0;
    int prefixBits = 96;
    int ownFour = 0xc0000201;
    byte[] ownSix = Wire.join(Wire.number(0x20010db800000000L, 8), Wire.number(1, 8));
    int mtu4 = 1500;
    int mtu6 = 1500;
    boolean kept = true;
    boolean let = true;
    int counter = 0;
    List<byte[]> out = new ArrayList<>();

    private static final class Drop extends Exception {
        private static final long serialVersionUID = 1;
        final int why;

        Drop(int why) {
            this.why = why;
        }
    }

    private static final class Answer extends Exception {
        private static final long serialVersionUID = 1;
        final int type;
        final int code;
        final long second;

        Answer(int type, int code, long second) {
            this.type = type;
            this.code = code;
            this.second = second;
        }
    }

    // ---- sums, by lists of words ----

    private static List<Integer> words(byte[]... rows) {
        List<Integer> all = new ArrayList<>();
        for (byte[] row : rows) {
            for (int i = 0; i < row.length; i += 2) {
                all.add(Wire.at(row, i) << 8 | (i + 1 < row.length ? Wire.at(row, i + 1) : 0));
            }
        }
        return all;
    }

    private static int sum(List<Integer> words) {
        long s = 0;
        for (int w : words) {
            s += w;
        }
        while (s >> 16 != 0) {
            s = (s & 0xffff) + (s >> 16);
        }
        return (int) s;
    }

    private static int adjusted(int c, List<Integer> a, List<Integer> b) {
        List<Integer> all = new ArrayList<>();
        all.add(~c & 0xffff);
        for (int w : a) {
            all.add(~w & 0xffff);
        }
        all.addAll(b);
        return ~sum(all) & 0xffff;
    }

    // ---- addresses, bit by bit ----

    boolean mappable(int address) {
        int a = address >>> 24;
        int b = address >>> 16 & 255;
        if (a == 0 || a == 127 || a == 169 && b == 254 || a >= 224) {
            return false;
        }
        boolean wellKnown = prefixHigh == 0x0064ff9b00000000L && prefixLow == 0 && prefixBits == 96;
        return !(wellKnown && (a == 10 || a == 172 && b >= 16 && b <= 31 || a == 192 && b == 168));
    }

    byte[] image(int address) {
        byte[] bytes = Wire.join(Wire.number(prefixHigh, 8), Wire.number(prefixLow, 8));
        int at = prefixBits / 8;
        for (int i = 0; i < 4; i++, at++) {
            if (at == 8) {
                at++;
            }
            bytes[at] = (byte) (address >>> 24 - 8 * i);
        }
        return bytes;
    }

    /** -1 if no mappable address has this image. */
    long addressOf(byte[] six) {
        int at = prefixBits / 8;
        long address = 0;
        for (int i = 0; i < 4; i++, at++) {
            if (at == 8) {
                at++;
            }
            address = address << 8 | Wire.at(six, at);
        }
        return java.util.Arrays.equals(image((int) address), six) && mappable((int) address) ? address : -1;
    }

    // ---- from IPv4 ----

    int four(byte[] tape) {
        out = new ArrayList<>();
        try {
            List<byte[]> made = translateFour(tape);
            out = made;
            return 0;
        } catch (Drop d) {
            return d.why;
        } catch (Answer a) {
            return answerFour(tape, a);
        }
    }

    private int answerFour(byte[] tape, Answer a) {
        int header = (tape[0] & 15) * 4;
        int total = Wire.word(tape, 2);
        boolean offset = (Wire.word(tape, 6) & 0x1fff) != 0;
        boolean mute = Wire.at(tape, 9) == 1 && (total == header || tape[header] != 8 && tape[header] != 0);
        if (offset || mute) {
            return 9;
        }
        byte[] quoted = Wire.slice(tape, 0, Math.min(total, header + 8));
        byte[] message = Wire.message(a.type, a.code, a.second, quoted);
        out.add(Wire.four(0, 0, 0, 64, 1, ownFour, (int) Wire.quad(tape, 12), new byte[0], message));
        return 10;
    }

    private static boolean notFour(int protocol) {
        return List.of(0, 2, 43, 44, 58, 59, 60).contains(protocol);
    }

    private static boolean notSix(int protocol) {
        return List.of(0, 1, 2, 43, 44, 59, 60).contains(protocol);
    }

    private static void wellFormedFour(byte[] t) throws Drop {
        if (t.length < 20 || t[0] >> 4 != 4) {
            throw new Drop(1);
        }
        int header = (t[0] & 15) * 4;
        if (header < 20 || header > t.length || Wire.word(t, 2) < header || Wire.word(t, 2) > t.length
            || sum(words(Wire.slice(t, 0, header))) != 65535) {
            throw new Drop(1);
        }
        int flags = Wire.word(t, 6);
        if ((flags & 0x3fff) != 0 && (flags & 0x1fff) * 8 + Wire.word(t, 2) - header > 65535) {
            throw new Drop(1);
        }
    }

    /** Whether a source route is still open. */
    private static boolean routed(byte[] t) throws Drop {
        byte[] options = Wire.slice(t, 20, (t[0] & 15) * 4);
        boolean routed = false;
        int i = 0;
        while (i < options.length && options[i] != 0) {
            if (options[i] == 1) {
                i++;
                continue;
            }
            if (i + 1 == options.length) {
                throw new Drop(1);
            }
            int kind = Wire.at(options, i);
            int n = Wire.at(options, i + 1);
            if (n < 2 || i + n > options.length) {
                throw new Drop(1);
            }
            if ((kind == 131 || kind == 137) && n > 2 && Wire.at(options, i + 2) <= n) {
                routed = true;
            }
            i += n;
        }
        return routed;
    }

    private List<byte[]> translateFour(byte[] t) throws Drop, Answer {
        wellFormedFour(t);
        boolean routed = routed(t);
        int header = (t[0] & 15) * 4;
        byte[] payload = Wire.slice(t, header, Wire.word(t, 2));
        int source = (int) Wire.quad(t, 12);
        int target = (int) Wire.quad(t, 16);
        if (!mappable(source)) {
            throw new Drop(2);
        }
        if (!mappable(target)) {
            throw new Drop(3);
        }
        if (routed) {
            throw new Answer(3, 5, 0);
        }
        int ttl = Wire.at(t, 8);
        if (ttl < 2) {
            throw new Answer(11, 0, 0);
        }
        int protocol = Wire.at(t, 9);
        if (notFour(protocol)) {
            throw new Drop(6);
        }
        int offset = Wire.word(t, 6) & 0x1fff;
        boolean more = (t[6] & 0x20) != 0;
        boolean df = (t[6] & 0x40) != 0;
        if (protocol == 1 && (more || offset != 0)) {
            throw new Drop(5);
        }
        if (offset == 0) {
            payload = firstFromFour(t, payload, protocol, more);
        }
        return cutSix(t, payload, ttl, offset, more, df);
    }

    private byte[] firstFromFour(byte[] t, byte[] payload, int protocol, boolean more) throws Drop {
        boolean udp = protocol == 17;
        if ((udp || protocol == 1) && payload.length < 8 || protocol == 6 && payload.length < 20) {
            throw new Drop(4);
        }
        if (udp && !more && Wire.word(payload, 4) != payload.length) {
            throw new Drop(4);
        }
        byte[] from = Wire.slice(t, 12, 20);
        byte[] to = images(t);
        if (udp && Wire.word(payload, 6) == 0) {
            if (more || !let) {
                throw new Drop(7);
            }
            int sum = ~sum(words(to, Wire.number(payload.length, 4), Wire.number(17, 4), payload)) & 0xffff;
            return Wire.with(payload, 6, 2, sum == 0 ? 65535 : sum);
        }
        if (protocol == 1 && payload[0] != 8 && payload[0] != 0) {
            return errorFromFour(payload, to);
        }
        return fixed(payload, protocol, from, to, payload.length);
    }

    private byte[] images(byte[] header) {
        return Wire.join(image((int) Wire.quad(header, 12)), image((int) Wire.quad(header, 16)));
    }

    /** Towards IPv6 if the new addresses are the longer ones. */
    private static byte[] fixed(byte[] payload, int protocol, byte[] from, byte[] to, int length) {
        boolean toSix = to.length == 32;
        if (protocol == 1 || protocol == 58) {
            int type = Wire.at(payload, 0);
            int fresh = toSix ? (type == 8 ? 128 : 129) : type == 128 ? 8 : 0;
            byte[] changed = Wire.with(payload, 0, 1, fresh);
            byte[] pseudo = Wire.join(toSix ? to : from, Wire.number(length, 4), Wire.number(58, 4));
            List<Integer> a = words(Wire.slice(payload, 0, 2));
            List<Integer> b = words(Wire.slice(changed, 0, 2));
            (toSix ? b : a).addAll(words(pseudo));
            return Wire.with(changed, 2, 2, adjusted(Wire.word(payload, 2), a, b));
        }
        int field = protocol == 17 ? 6 : 16;
        if (protocol != 17 && protocol != 6 || payload.length < field + 2) {
            return payload;
        }
        int old = Wire.word(payload, field);
        int fresh = adjusted(old, words(from), words(to));
        if (protocol == 17) {
            fresh = old == 0 ? 0 : fresh == 0 ? 65535 : fresh;
        }
        return Wire.with(payload, field, 2, fresh);
    }

    private byte[] sixHeader(byte[] t, int length, int next, int hops) {
        return Wire.join(Wire.number(0x60000000L | (kept ? Wire.at(t, 1) : 0) << 20, 4), Wire.number(length, 2),
            Wire.number(next, 1), Wire.number(hops, 1), images(t));
    }

    private List<byte[]> cutSix(byte[] t, byte[] payload, int ttl, int offset, boolean more, boolean df)
            throws Answer {
        int next = t[9] == 1 ? 58 : Wire.at(t, 9);
        int ident = Wire.word(t, 4);
        boolean fragment = more || offset != 0;
        int length = 40 + (fragment ? 8 : 0) + payload.length;
        if (df && length > mtu6) {
            throw new Answer(3, 4, mtu6 - 20);
        }
        List<byte[]> made = new ArrayList<>();
        if (df || length <= 1280) {
            byte[] extra = fragment ? Wire.fragmentHeader(next, offset, more, ident) : new byte[0];
            byte[] rest = Wire.join(extra, payload);
            made.add(Wire.join(sixHeader(t, rest.length, fragment ? 44 : next, ttl - 1), rest));
            return made;
        }
        for (int i = 0; i < payload.length; i += 1232) {
            int end = Math.min(payload.length, i + 1232);
            boolean last = end == payload.length;
            byte[] rest = Wire.join(Wire.fragmentHeader(next, offset + i / 8, !last || more, ident),
                Wire.slice(payload, i, end));
            made.add(Wire.join(sixHeader(t, rest.length, 44, ttl - 1), rest));
        }
        return made;
    }

    private byte[] errorFromFour(byte[] m, byte[] images) throws Drop {
        int type = Wire.at(m, 0);
        int code = Wire.at(m, 1);
        if (type != 3 && type != 11 && type != 12) {
            throw new Drop(6);
        }
        if (sum(words(m)) != 65535) {
            throw new Drop(4);
        }
        byte[] inner = Wire.slice(m, 8, m.length);
        long second = 0;
        int newType = 3;
        int newCode = code;
        if (type == 3) {
            newType = code == 2 ? 4 : code == 4 ? 2 : 1;
            if (List.of(0, 1, 5, 6, 7, 8, 11, 12, 4).contains(code)) {
                newCode = 0;
            } else if (List.of(9, 10, 13, 15, 2).contains(code)) {
                newCode = 1;
            } else if (code == 3) {
                newCode = 4;
            } else {
                throw new Drop(8);
            }
            second = code == 2 ? 6 : 0;
        } else if (type == 12) {
            newType = 4;
            newCode = 0;
            second = pointerFromFour(Wire.at(m, 4));
            if (code != 0 && code != 2 || second < 0) {
                throw new Drop(8);
            }
        }
        byte[] made = innerFromFour(inner);
        if (type == 3 && code == 4) {
            second = mtuFromFour(Wire.word(m, 6), Wire.word(inner, 2));
        }
        made = Wire.slice(made, 0, Math.min(made.length, 1232));
        byte[] source = Wire.slice(images, 0, 16);
        byte[] target = Wire.slice(images, 16, 32);
        return Wire.messageSix(newType, newCode, second, made, source, target);
    }

    private static int pointerFromFour(int p) {
        if (p == 0 || p == 1) {
            return p;
        }
        if (p == 2 || p == 3) {
            return 4;
        }
        if (p == 8) {
            return 7;
        }
        if (p == 9) {
            return 6;
        }
        return p >= 12 && p <= 15 ? 8 : p >= 16 && p <= 19 ? 24 : -1;
    }

    private int mtuFromFour(int told, int innerTotal) {
        int mtu = told;
        if (mtu == 0) {
            mtu = 68;
            for (int p : List.of(68, 296, 508, 1006, 1492, 2002, 4352, 8166, 17914, 32000, 65535)) {
                mtu = p < innerTotal ? p : mtu;
            }
        }
        mtu += 20;
        if (mtu > mtu6) {
            mtu = mtu6;
        }
        if (mtu > mtu4 + 20) {
            mtu = mtu4 + 20;
        }
        return mtu < 1280 ? 1280 : mtu;
    }

    private byte[] innerFromFour(byte[] q) throws Drop {
        if (q.length < 20 || q[0] >> 4 != 4) {
            throw new Drop(8);
        }
        int header = (q[0] & 15) * 4;
        int total = Wire.word(q, 2);
        int protocol = Wire.at(q, 9);
        if (header < 20 || header > q.length || total < header || notFour(protocol)
            || !mappable((int) Wire.quad(q, 12)) || !mappable((int) Wire.quad(q, 16))) {
            throw new Drop(8);
        }
        byte[] payload = Wire.slice(q, header, Math.min(q.length, total));
        int flags = Wire.word(q, 6);
        int offset = flags & 0x1fff;
        boolean more = (flags & 0x2000) != 0;
        boolean fragment = more || offset != 0;
        if (protocol == 1 && (fragment || payload.length < 4 || payload[0] != 8 && payload[0] != 0)) {
            throw new Drop(8);
        }
        if (offset == 0) {
            payload = fixed(payload, protocol, Wire.slice(q, 12, 20), images(q), total - header);
        }
        int next = protocol == 1 ? 58 : protocol;
        int length = total - header + (fragment ? 8 : 0);
        byte[] extra = fragment ? Wire.fragmentHeader(next, offset, more, Wire.word(q, 4)) : new byte[0];
        return Wire.join(sixHeader(q, length, fragment ? 44 : next, Wire.at(q, 8)), extra, payload);
    }

    // ---- from IPv6 ----

    /** The headers of a packet: where the payload begins, and what the way there told. */
    private static final class Chain {
        int protocol;
        int at = 40;
        int fragmentAt = -1;
        int offset = 0;
        boolean more = false;
        int ident = 0;
        int segmentsAt = -1;

        /** Thrown: a header that is not there with all its bytes before the end, or a second 44. */
        Chain(byte[] t, int end, int why) throws Drop {
            protocol = Wire.at(t, 6);
            while (offset == 0 && List.of(0, 43, 44, 60).contains(protocol)) {
                int size = at + 8 <= end ? protocol == 44 ? 8 : 8 + 8 * Wire.at(t, at + 1) : 99999;
                if (at + size > end || protocol == 44 && fragmentAt >= 0) {
                    throw new Drop(why);
                }
                if (protocol == 43 && t[at + 3] != 0 && segmentsAt < 0) {
                    segmentsAt = at + 3;
                }
                if (protocol == 44) {
                    fragmentAt = at;
                    offset = Wire.word(t, at + 2) >> 3;
                    more = (t[at + 3] & 1) != 0;
                    ident = Wire.word(t, at + 6);
                }
                protocol = Wire.at(t, at);
                at += size;
            }
        }

        boolean fragment() {
            return more || offset != 0;
        }
    }

    int six(byte[] tape) {
        out = new ArrayList<>();
        try {
            List<byte[]> made = translateSix(tape);
            out = made;
            return 0;
        } catch (Drop d) {
            return d.why;
        } catch (Answer a) {
            return answerSix(tape, a);
        }
    }

    private int answerSix(byte[] tape, Answer a) {
        int end = 40 + Wire.word(tape, 4);
        Chain c;
        try {
            c = new Chain(tape, end, 1);
        } catch (Drop d) {
            throw new IllegalStateException("answered a malformed packet");
        }
        boolean echo = c.at < end && (Wire.at(tape, c.at) == 128 || Wire.at(tape, c.at) == 129);
        if (c.offset != 0 || c.protocol == 58 && !echo) {
            return 9;
        }
        byte[] source = Wire.slice(tape, 8, 24);
        byte[] quoted = Wire.slice(tape, 0, Math.min(end, 1280 - 48));
        byte[] message = Wire.messageSix(a.type, a.code, a.second, quoted, ownSix, source);
        out.add(Wire.six(0, 58, 64, ownSix, source, message));
        return 10;
    }

    private byte[] addresses(byte[] t) {
        return Wire.join(Wire.number(addressOf(Wire.slice(t, 8, 24)), 4),
            Wire.number(addressOf(Wire.slice(t, 24, 40)), 4));
    }

    private List<byte[]> translateSix(byte[] t) throws Drop, Answer {
        if (t.length < 40 || t[0] >> 4 != 6 || 40 + Wire.word(t, 4) > t.length) {
            throw new Drop(1);
        }
        int end = 40 + Wire.word(t, 4);
        Chain c = new Chain(t, end, 1);
        byte[] payload = Wire.slice(t, c.at, end);
        if (c.more && payload.length % 8 != 0 || c.fragment() && c.offset * 8 + payload.length > 65535) {
            throw new Drop(1);
        }
        if (addressOf(Wire.slice(t, 8, 24)) < 0) {
            throw new Drop(2);
        }
        if (addressOf(Wire.slice(t, 24, 40)) < 0) {
            throw new Drop(3);
        }
        if (c.segmentsAt >= 0) {
            throw new Answer(4, 0, c.segmentsAt);
        }
        if (Wire.at(t, 7) < 2) {
            throw new Answer(3, 0, 0);
        }
        if (notSix(c.protocol)) {
            throw new Drop(6);
        }
        if (c.protocol == 58 && c.fragment()) {
            throw new Drop(5);
        }
        if (c.offset == 0) {
            payload = firstFromSix(t, payload, c);
        }
        return cutFour(t, payload, c);
    }

    private byte[] firstFromSix(byte[] t, byte[] payload, Chain c) throws Drop {
        boolean udp = c.protocol == 17;
        if ((udp || c.protocol == 58) && payload.length < 8 || c.protocol == 6 && payload.length < 20) {
            throw new Drop(4);
        }
        if (udp && !c.more && Wire.word(payload, 4) != payload.length) {
            throw new Drop(4);
        }
        if (udp && Wire.word(payload, 6) == 0) {
            throw new Drop(7);
        }
        if (c.protocol == 58 && Wire.at(payload, 0) != 128 && Wire.at(payload, 0) != 129) {
            return errorFromSix(t, payload);
        }
        return fixed(payload, c.protocol, Wire.slice(t, 8, 40), addresses(t), payload.length);
    }

    private byte[] fourPacket(byte[] t, byte[] payload, int length, int ident, int flags, int ttl, int protocol) {
        byte[] addresses = addresses(t);
        byte[] packet = Wire.four(kept ? Wire.word(t, 0) >> 4 & 255 : 0, ident, flags, ttl,
            protocol == 58 ? 1 : protocol, (int) Wire.quad(addresses, 0), (int) Wire.quad(addresses, 4), new byte[0],
            payload);
        return Wire.fourWith(packet, 2, 2, 20 + length);
    }

    private List<byte[]> cutFour(byte[] t, byte[] payload, Chain c) throws Drop, Answer {
        boolean df = c.fragmentAt < 0 && 20 + payload.length > 1260;
        if (df && 20 + payload.length > mtu4) {
            throw new Answer(2, 0, mtu4 + 20);
        }
        int ident = c.ident;
        if (c.fragmentAt < 0 && !df) {
            counter = counter == 65535 ? 0 : counter + 1;
            ident = counter;
        }
        List<byte[]> made = new ArrayList<>();
        int begin = 0;
        int fit = (mtu4 - 20) - (mtu4 - 20) % 8;
        while (payload.length - begin > mtu4 - 20) {
            byte[] piece = Wire.slice(payload, begin, begin + fit);
            made.add(fourPacket(t, piece, fit, ident, 0x2000 | c.offset + begin / 8, Wire.at(t, 7) - 1, c.protocol));
            begin += fit;
        }
        byte[] last = Wire.slice(payload, begin, payload.length);
        int flags = (df ? 0x4000 : 0) | (c.more ? 0x2000 : 0) | c.offset + begin / 8;
        made.add(fourPacket(t, last, last.length, ident, flags, Wire.at(t, 7) - 1, c.protocol));
        return made;
    }

    private byte[] errorFromSix(byte[] t, byte[] m) throws Drop {
        int type = Wire.at(m, 0);
        int code = Wire.at(m, 1);
        if (type < 1 || type > 4) {
            throw new Drop(6);
        }
        if (sum(words(Wire.slice(t, 8, 40), Wire.number(m.length, 4), Wire.number(58, 4), m)) != 65535) {
            throw new Drop(4);
        }
        long told = Wire.quad(m, 4);
        int kind;
        long second = 0;
        if (type == 1) {
            kind = code == 0 || code == 2 || code == 3 ? 0x301 : code == 1 ? 0x30a : code == 4 ? 0x303 : -1;
        } else if (type == 2) {
            kind = 0x304;
            second = Math.min(told < 20 ? 0 : told - 20, Math.min(mtu4, mtu6 - 20));
        } else if (type == 3) {
            kind = 11 << 8 | code;
        } else {
            int pointer = pointerFromSix(told);
            kind = code == 0 && pointer >= 0 ? 0xc00 : code == 1 ? 0x302 : -1;
            second = code == 0 ? (long) pointer << 24 : 0;
        }
        if (kind < 0) {
            throw new Drop(8);
        }
        byte[] made = innerFromSix(Wire.slice(m, 8, m.length));
        return Wire.message(kind >> 8, kind & 255, second, Wire.slice(made, 0, Math.min(made.length, 548)));
    }

    private static int pointerFromSix(long p) {
        if (p == 0 || p == 1) {
            return (int) p;
        }
        if (p == 4 || p == 5) {
            return 2;
        }
        if (p == 6) {
            return 9;
        }
        if (p == 7) {
            return 8;
        }
        return p >= 8 && p <= 23 ? 12 : p >= 24 && p <= 39 ? 16 : -1;
    }

    private byte[] innerFromSix(byte[] q) throws Drop {
        if (q.length < 40 || q[0] >> 4 != 6) {
            throw new Drop(8);
        }
        int told = 40 + Wire.word(q, 4);
        int end = Math.min(q.length, told);
        Chain c = new Chain(q, end, 8);
        if (addressOf(Wire.slice(q, 8, 24)) < 0 || addressOf(Wire.slice(q, 24, 40)) < 0 || notSix(c.protocol)
            || 20 + told - c.at > 65535) {
            throw new Drop(8);
        }
        byte[] payload = Wire.slice(q, c.at, end);
        int type = payload.length == 0 ? -1 : Wire.at(payload, 0);
        if (c.protocol == 58 && (c.fragment() || payload.length < 4 || type != 128 && type != 129)) {
            throw new Drop(8);
        }
        if (c.offset == 0) {
            payload = fixed(payload, c.protocol, Wire.slice(q, 8, 40), addresses(q), told - c.at);
        }
        boolean df = c.fragmentAt < 0 && 20 + told - c.at > 1260;
        int flags = (df ? 0x4000 : 0) | (c.more ? 0x2000 : 0) | c.offset;
        return fourPacket(q, payload, told - c.at, c.ident, flags, Wire.at(q, 7), c.protocol);
    }
}
