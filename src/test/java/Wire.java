import java.io.ByteArrayOutputStream;
import java.util.ArrayList;
import java.util.Arrays;
import java.util.List;

/** Packets as the tests write and read them: every sum is made here anew, none is taken from the program. */
final class Wire {
    static final int HOST = 0xc0000221;
    static final int PEER = 0xc6336402;
    static final long WELL_KNOWN = 0x0064ff9b00000000L;

    private Wire() {
    }

    static byte[] hex(String text) {
        String digits = text.replace(" ", "");
        byte[] bytes = new byte[digits.length() / 2];
        for (int i = 0; i < bytes.length; i++) {
            bytes[i] = (byte) Integer.parseInt(digits.substring(2 * i, 2 * i + 2), 16);
        }
        return bytes;
    }

    static String text(byte[] bytes) {
        StringBuilder b = new StringBuilder();
        for (byte x : bytes) {
            b.append(String.format("%02x", x & 255));
        }
        return b.toString();
    }

    static byte[] join(byte[]... rows) {
        ByteArrayOutputStream all = new ByteArrayOutputStream();
        for (byte[] row : rows) {
            all.write(row, 0, row.length);
        }
        return all.toByteArray();
    }

    static byte[] number(long value, int width) {
        byte[] bytes = new byte[width];
        for (int i = 0; i < width; i++) {
            bytes[i] = (byte) (value >>> 8 * (width - 1 - i));
        }
        return bytes;
    }

    static byte[] filled(int n, int with) {
        byte[] bytes = new byte[n];
        Arrays.fill(bytes, (byte) with);
        return bytes;
    }

    /** Bytes that are all different from their neighbours, so that a shifted copy is seen. */
    static byte[] counting(int n) {
        byte[] bytes = new byte[n];
        for (int i = 0; i < n; i++) {
            bytes[i] = (byte) (i * 7 + i / 256);
        }
        return bytes;
    }

    static byte[] slice(byte[] bytes, int from, int to) {
        return Arrays.copyOfRange(bytes, from, to);
    }

    static int at(byte[] bytes, int i) {
        return bytes[i] & 255;
    }

    static int word(byte[] bytes, int i) {
        return at(bytes, i) << 8 | at(bytes, i + 1);
    }

    static long quad(byte[] bytes, int i) {
        return (long) word(bytes, i) << 16 | word(bytes, i + 2);
    }

    static long wide(byte[] bytes, int i) {
        return quad(bytes, i) << 32 | quad(bytes, i + 4);
    }

    static byte[] with(byte[] bytes, int at, int width, long value) {
        byte[] copy = bytes.clone();
        System.arraycopy(number(value, width), 0, copy, at, width);
        return copy;
    }

    static int sum(byte[] bytes) {
        long total = 0;
        for (int i = 0; i < bytes.length; i += 2) {
            total += at(bytes, i) * 256 + (i + 1 < bytes.length ? at(bytes, i + 1) : 0);
        }
        while (total > 65535) {
            total = total % 65536 + total / 65536;
        }
        return (int) total;
    }

    static int checksum(byte[] bytes) {
        return 65535 ^ sum(bytes);
    }

    static byte[] pseudoFour(int source, int target, int protocol, int length) {
        return join(number(source, 4), number(target, 4), number(protocol, 2), number(length, 2));
    }

    static byte[] pseudoSix(byte[] source, byte[] target, int next, int length) {
        return join(source, target, number(length, 4), number(next, 4));
    }

    /** The image in the well-known prefix. */
    static byte[] known(int address) {
        return join(number(WELL_KNOWN, 8), number(address & 0xffffffffL, 8));
    }

    static byte[] four(int tos, int ident, int flags, int ttl, int protocol, byte[] payload) {
        return four(tos, ident, flags, ttl, protocol, HOST, PEER, new byte[0], payload);
    }

    static byte[] four(int tos, int ident, int flags, int ttl, int protocol, int source, int target,
            byte[] options, byte[] payload) {
        int header = 20 + options.length;
        byte[] head = join(number(0x40 | header / 4, 1), number(tos, 1), number(header + payload.length, 2),
            number(ident, 2), number(flags, 2), number(ttl, 1), number(protocol, 1), number(0, 2),
            number(source, 4), number(target, 4), options);
        return join(with(head, 10, 2, checksum(head)), payload);
    }

    /** A packet in UDP's clothes with this lone change of the header, its sum made good. */
    static byte[] fourWith(byte[] packet, int at, int width, long value) {
        byte[] changed = with(with(packet, at, width, value), 10, 2, 0);
        int header = Math.min(changed.length, (at(changed, 0) & 15) * 4);
        return with(changed, 10, 2, checksum(slice(changed, 0, header)));
    }

    static byte[] six(int tos, int next, int hops, byte[] rest) {
        return six(tos, next, hops, known(HOST), known(PEER), rest);
    }

    static byte[] six(int tos, int next, int hops, byte[] source, byte[] target, byte[] rest) {
        return join(number(0x60000000L | (long) tos << 20, 4), number(rest.length, 2), number(next, 1),
            number(hops, 1), source, target, rest);
    }

    static byte[] fragmentHeader(int next, int offset, boolean more, long ident) {
        return join(number(next, 1), number(0, 1), number(offset << 3 | (more ? 1 : 0), 2), number(ident, 4));
    }

    /** A UDP datagram whose sum holds over these pseudo words (made for its length). */
    static byte[] udp(byte[] data, boolean inSix, byte[] source, byte[] target) {
        return transport(17, join(hex("12340035"), number(8 + data.length, 2), number(0, 2), data), 6, inSix, source,
            target);
    }

    static byte[] tcp(byte[] data, boolean inSix, byte[] source, byte[] target) {
        return transport(6, join(hex("12340050 00000001 00000002 50102000 00000000"), data), 16, inSix, source, target);
    }

    static byte[] transport(int protocol, byte[] segment, int field, boolean inSix, byte[] source, byte[] target) {
        byte[] pseudo = inSix ? pseudoSix(source, target, protocol, segment.length)
            : pseudoFour((int) quad(source, 0), (int) quad(target, 0), protocol, segment.length);
        int sum = checksum(join(pseudo, segment));
        return with(segment, field, 2, protocol == 17 && sum == 0 ? 65535 : sum);
    }

    static byte[] udpFour(byte[] data) {
        return udp(data, false, number(HOST, 4), number(PEER, 4));
    }

    static byte[] udpSix(byte[] data) {
        return udp(data, true, known(HOST), known(PEER));
    }

    static byte[] tcpFour(byte[] data) {
        return tcp(data, false, number(HOST, 4), number(PEER, 4));
    }

    static byte[] tcpSix(byte[] data) {
        return tcp(data, true, known(HOST), known(PEER));
    }

    static byte[] message(int type, int code, long second, byte[] rest) {
        byte[] bytes = join(number(type, 1), number(code, 1), number(0, 2), number(second, 4), rest);
        return with(bytes, 2, 2, checksum(bytes));
    }

    static byte[] messageSix(int type, int code, long second, byte[] rest) {
        return messageSix(type, code, second, rest, known(HOST), known(PEER));
    }

    static byte[] messageSix(int type, int code, long second, byte[] rest, byte[] source, byte[] target) {
        byte[] bytes = join(number(type, 1), number(code, 1), number(0, 2), number(second, 4), rest);
        return with(bytes, 2, 2, checksum(join(pseudoSix(source, target, 58, bytes.length), bytes)));
    }

    /** These bytes behind what the tape has. */
    static void feed(PacketTranslator x, byte[] packet) {
        int before = x.count(11);
        for (int i = 0; i < packet.length; i += 20) {
            byte[] piece = Arrays.copyOfRange(packet, i, i + 20);
            x.feed((int) quad(piece, 0), (int) quad(piece, 4), (int) quad(piece, 8), (int) quad(piece, 12),
                (int) quad(piece, 16));
        }
        x.end(before + packet.length);
    }

    static int four(PacketTranslator x, byte[] packet) {
        feed(x, packet);
        return x.four();
    }

    static int six(PacketTranslator x, byte[] packet) {
        feed(x, packet);
        return x.six();
    }

    static byte[] part(PacketTranslator x, int k) {
        byte[] bytes = new byte[x.size(k)];
        for (int i = 0; i < bytes.length; i++) {
            bytes[i] = (byte) x.octet(k, i);
        }
        return bytes;
    }

    static List<byte[]> parts(PacketTranslator x) {
        List<byte[]> all = new ArrayList<>();
        for (int k = 0; k < x.parts(); k++) {
            all.add(part(x, k));
        }
        return all;
    }
}
