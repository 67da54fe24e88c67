/**
 * A translator between the two families of the Internet's packets, without state but a counter.
 *
 * <p>Bytes are fed onto a tape; {@link #four()} and {@link #six()} take the tape for a packet of their
 * family and leave what came of it to be read with {@link #parts()}, {@link #size(int)},
 * {@link #octet(int, int)} and {@link #check(int, int, int)}.
 */
public final class PacketTranslator {
    public static final int NONE = -1;

    private static final int TRANSLATED = 0;
    private static final int MALFORMED = 1;
    private static final int FOREIGN_SOURCE = 2;
    private static final int FOREIGN_TARGET = 3;
    private static final int DAMAGED = 4;
    private static final int BROKEN_MESSAGE = 5;
    private static final int UNKNOWN_KIND = 6;
    private static final int UNSUMMED = 7;
    private static final int UNTRANSLATABLE = 8;
    private static final int UNANSWERABLE = 9;
    private static final int ANSWERED = 10;

    private static final int ICMP = 1;
    private static final int TCP = 6;
    private static final int UDP = 17;
    private static final int ROUTING = 43;
    private static final int FRAGMENT = 44;
    private static final int ICMP_SIX = 58;

    private static final int ECHO_FOUR = 8;
    private static final int ECHO_REPLY_FOUR = 0;
    private static final int ECHO_SIX = 128;
    private static final int ECHO_REPLY_SIX = 129;

    private static final int FOUR_HEADER = 20;
    private static final int SIX_HEADER = 40;
    private static final int FRAGMENT_HEADER = 8;
    private static final int MESSAGE_HEADER = 8;

    private static final int ALL_ONES = 65535;
    private static final long LOW_32 = 0xffffffffL;
    /** What a packet's 16 bits of length can tell at most, and where its fragments must end. */
    private static final int LONGEST = 65535;
    private static final int TAPE_ROOM = 2400;
    private static final int FED_AT_ONCE = 20;
    /** An inner packet's IPv6 headers are longer than its IPv4 header: 8 + 40 + 8 + (2400 - 20 - 8 - 20). */
    private static final int BODY_ROOM = 2408;
    /** The longest payload that is split, 2352 bytes behind a fragment header, in pieces of 48 bytes at MTU4 68. */
    private static final int MOST_PARTS = 49;
    private static final int OUT_ROOM = 2352 + MOST_PARTS * FOUR_HEADER;

    private static final int SMALLEST_SIX_MTU = 1280;
    private static final int SIX_PIECE = SMALLEST_SIX_MTU - SIX_HEADER - FRAGMENT_HEADER;
    private static final int LONGEST_WITHOUT_DF = 1260;
    private static final int LONGEST_ERROR_FOUR = 576;
    private static final int ANSWER_HOPS = 64;

    private static final int DONT_FRAGMENT = 0x4000;
    private static final int MORE_FRAGMENTS = 0x2000;
    /** IPv6 pseudo words: 16 of addresses, two of length, two of the next header. */
    private static final int SIX_PSEUDO_WORDS = 20;

    /** A message's type and code in one number, as they stand in its first word. */
    private static final int TOO_BIG_SIX = 0x200;
    private static final int POINTED_SIX = 0x400;
    private static final int NO_SUCH_HEADER_SIX = 0x401;
    private static final int TOO_BIG_FOUR = 0x304;
    private static final int POINTED_FOUR = 0xc00;
    /** Where the next header's number stands in an IPv6 header. */
    private static final int NEXT_HEADER_POINTER = 6;

    private static final int[] UNREACHABLE_TO_SIX = {
        0x100, 0x100, NO_SUCH_HEADER_SIX, 0x104, TOO_BIG_SIX, 0x100, 0x100, 0x100,
        0x100, 0x101, 0x101, 0x100, 0x100, 0x101, NONE, 0x101};
    private static final int[] UNREACHABLE_TO_FOUR = {0x301, 0x30a, 0x301, 0x301, 0x303};
    private static final int[] POINTER_TO_SIX = {
        0, 1, 4, 4, NONE, NONE, NONE, NONE, 7, 6, NONE, NONE, 8, 8, 8, 8, 24, 24, 24, 24};
    private static final int[] POINTER_TO_FOUR = {
        0, 1, NONE, NONE, 2, 2, 9, 8,
        12, 12, 12, 12, 12, 12, 12, 12, 12, 12, 12, 12, 12, 12, 12, 12,
        16, 16, 16, 16, 16, 16, 16, 16, 16, 16, 16, 16, 16, 16, 16, 16};
    private static final int[] PLATEAUS = {65535, 32000, 17914, 8166, 4352, 2002, 1492, 1006, 508, 296};
    private static final int LOWEST_PLATEAU = 68;

    private final Row tape = new Row(new byte[TAPE_ROOM]);
    private final Row body = new Row(new byte[BODY_ROOM]);
    private final Parts out = new Parts();
    private final Mapping mapping = new Mapping();
    private final FourPacket outerFour = new FourPacket();
    private final FourPacket innerFour = new FourPacket();
    private final SixPacket outerSix = new SixPacket();
    private final SixPacket innerSix = new SixPacket();
    private final int[] verdicts = new int[ANSWERED + 1];
    private int ownFour = 0xc0000201;
    private long ownHigh = 0x20010db800000000L;
    private long ownLow = 1;
    private int mtuFour = 1500;
    private int mtuSix = 1500;
    private boolean classKept = true;
    private boolean unsummedLet = true;
    private int counter = 0;

    public PacketTranslator() {
    }

    public int feed(int a, int b, int c, int d, int e) throws IllegalStateException {
        int at = tape.length;
        if (at + FED_AT_ONCE > TAPE_ROOM) {
            throw new IllegalStateException("the tape would have more than 2400 bytes");
        }
        tape.put(at, 4, a);
        tape.put(at + 4, 4, b);
        tape.put(at + 8, 4, c);
        tape.put(at + 12, 4, d);
        tape.put(at + 16, 4, e);
        tape.length = at + FED_AT_ONCE;
        return tape.length;
    }

    public int end(int n) throws IllegalArgumentException {
        if (n < 0 || n > tape.length) {
            throw new IllegalArgumentException("the tape has not so many bytes");
        }
        tape.length = n;
        return n;
    }

    public void prefix(long high, long low, int bits) throws IllegalArgumentException {
        if (!Mapping.canBePrefix(high, low, bits)) {
            throw new IllegalArgumentException("no prefix");
        }
        mapping.high = high;
        mapping.low = low;
        mapping.bits = bits;
    }

    public void own(int four, long high, long low) {
        ownFour = four;
        ownHigh = high;
        ownLow = low;
    }

    public void limits(int four, int six) throws IllegalArgumentException {
        if (four < 68 || four > 2000 || six < SMALLEST_SIX_MTU || six > 2000) {
            throw new IllegalArgumentException("a limit out of its range");
        }
        mtuFour = four;
        mtuSix = six;
    }

    public void ways(boolean kept, boolean let) {
        classKept = kept;
        unsummedLet = let;
    }

    public int four() {
        out.clear();
        int verdict = verdictOnFour(outerFour);
        finish(verdict);
        return verdict;
    }

    public int six() {
        out.clear();
        int verdict = verdictOnSix(outerSix);
        finish(verdict);
        return verdict;
    }

    public int parts() {
        return out.number;
    }

    public int size(int k) {
        return out.sizeOf(k);
    }

    public int octet(int k, int i) throws IndexOutOfBoundsException {
        if (i < 0 || i >= out.sizeOf(k)) {
            throw new IndexOutOfBoundsException("no such byte");
        }
        return out.row.at(out.startOf(k) + i);
    }

    public int check(int k, int from, int to) throws IndexOutOfBoundsException {
        int size = out.sizeOf(k);
        if (size == NONE || from < 0 || to < from || to > size) {
            throw new IndexOutOfBoundsException("no such bytes");
        }
        int start = out.startOf(k);
        return checksum(out.row.sum(start + from, start + to));
    }

    public long image(int address, boolean low) {
        if (!mapping.mappable(address)) {
            return 0;
        }
        return low ? mapping.lowerOf(address) : mapping.upperOf(address);
    }

    public long address(long high, long low) {
        return mapping.fourOf(high, low);
    }

    public int count(int what) {
        if (what >= 0 && what < verdicts.length) {
            return verdicts[what];
        }
        switch (what) {
            case 11:
                return tape.length;
            case 12:
                return counter;
            case 13:
                return mtuFour;
            case 14:
                return mtuSix;
            case 15:
                return mapping.bits;
            default:
                return NONE;
        }
    }

    private void finish(int verdict) {
        tape.length = 0;
        if (verdict >= 0 && verdict < verdicts.length) {
            verdicts[verdict]++;
        }
    }

    // ---- from IPv4 ----

    private int verdictOnFour(FourPacket p) {
        if (!p.readWhole(tape)) {
            return MALFORMED;
        }
        if (!mapping.mappable(p.source)) {
            return FOREIGN_SOURCE;
        }
        if (!mapping.mappable(p.target)) {
            return FOREIGN_TARGET;
        }
        if (p.routed) {
            return answerFour(p, 0x305, 0);
        }
        if (p.hops <= 1) {
            return answerFour(p, 0xb00, 0);
        }
        int fault = faultOfFour(p);
        if (fault != TRANSLATED) {
            return fault;
        }
        p.sixWords = imageWords(p);
        if (p.protocol == ICMP && isErrorFour(tape.at(p.payloadAt))) {
            fault = errorFromFour(p, innerFour);
        } else {
            bodyFromFour(p);
        }
        if (fault != TRANSLATED) {
            return fault;
        }
        if (p.dontFragment && SIX_HEADER + p.fragmentHeader() + body.length > mtuSix) {
            return answerFour(p, TOO_BIG_FOUR, mtuSix - 20);
        }
        sendSix(p);
        return TRANSLATED;
    }

    private int faultOfFour(FourPacket p) {
        if (neverFromFour(p.protocol)) {
            return UNKNOWN_KIND;
        }
        if (p.protocol == ICMP && p.fragment()) {
            return BROKEN_MESSAGE;
        }
        int fault = faultOfTransport(p, unsummedLet && !p.more);
        if (fault != TRANSLATED || p.protocol != ICMP) {
            return fault;
        }
        int type = tape.at(p.payloadAt);
        return isEchoFour(type) || isErrorFour(type) ? TRANSLATED : UNKNOWN_KIND;
    }

    private static boolean neverFromFour(int protocol) {
        return neverFromEither(protocol) || protocol == ICMP_SIX;
    }

    private static boolean neverFromSix(int protocol) {
        return neverFromEither(protocol) || protocol == ICMP;
    }

    private static boolean neverFromEither(int protocol) {
        return protocol == 0 || protocol == 2 || protocol == ROUTING || protocol == FRAGMENT
            || protocol == 59 || protocol == 60;
    }

    /** Either family's message protocol may be asked for: the other one's never comes so far. */
    private int faultOfTransport(Packet p, boolean zeroLet) {
        boolean udp = p.protocol == UDP;
        boolean message = p.protocol == ICMP || p.protocol == ICMP_SIX;
        if (p.offset != 0 || !udp && !message && p.protocol != TCP) {
            return TRANSLATED;
        }
        if (p.length < (p.protocol == TCP ? 20 : 8)) {
            return DAMAGED;
        }
        if (udp && !p.more && tape.word(p.payloadAt + 4) != p.length) {
            return DAMAGED;
        }
        return udp && !zeroLet && tape.word(p.payloadAt + 6) == 0 ? UNSUMMED : TRANSLATED;
    }

    private static boolean isEchoFour(int type) {
        return type == ECHO_FOUR || type == ECHO_REPLY_FOUR;
    }

    private static boolean isErrorFour(int type) {
        return type == 3 || type == 11 || type == 12;
    }

    private void bodyFromFour(FourPacket p) {
        body.copy(tape, p.payloadAt, 0, p.length);
        body.length = p.length;
        fixToSix(p, 0);
        if (p.protocol == UDP && p.offset == 0 && body.word(6) == 0) {
            int fresh = checksum(p.sixWords + p.length + UDP + body.sum(0, body.length));
            body.put(6, 2, fresh == 0 ? ALL_ONES : fresh);
        }
    }

    /** The checksum of a payload that stands in the body, and an echo's type. */
    private void fixToSix(FourPacket p, int at) {
        if (p.protocol == ICMP) {
            int old = body.word(at);
            int type = old >> 8 == ECHO_FOUR ? ECHO_SIX : ECHO_REPLY_SIX;
            int fresh = type << 8 | old & 255;
            body.put(at, 2, fresh);
            long to = fresh + p.sixWords + p.length + ICMP_SIX;
            body.put(at + 2, 2, adjusted(body.word(at + 2), old, 1, to));
        } else {
            fixTransport(p, at, p.fourWords, 4, p.sixWords);
        }
    }

    /** Lengths and protocols are the same on both sides, so that the addresses alone count. */
    private void fixTransport(Packet p, int at, long from, int fromWords, long to) {
        int field = p.protocol == UDP ? 6 : 16;
        boolean summed = p.protocol == UDP || p.protocol == TCP;
        if (!summed || p.offset != 0 || p.there < field + 2) {
            return;
        }
        int old = body.word(at + field);
        if (p.protocol == TCP) {
            body.put(at + field, 2, adjusted(old, from, fromWords, to));
        } else if (old != 0) {
            int fresh = adjusted(old, from, fromWords, to);
            body.put(at + field, 2, fresh == 0 ? ALL_ONES : fresh);
        }
    }

    private int errorFromFour(FourPacket p, FourPacket q) {
        int end = p.payloadAt + p.length;
        if (folded(tape.sum(p.payloadAt, end)) != ALL_ONES) {
            return DAMAGED;
        }
        int kind = errorToSix(tape.at(p.payloadAt), tape.at(p.payloadAt + 1));
        if (kind == NONE || !q.read(tape, p.payloadAt + MESSAGE_HEADER, end) || !innerFourFits(q)) {
            return UNTRANSLATABLE;
        }
        int second = secondToSix(kind, p, q);
        if (second == NONE) {
            return UNTRANSLATABLE;
        }
        q.sixWords = imageWords(q);
        int at = putInnerSix(q);
        fixToSix(q, at);
        body.length = Math.min(at + q.there, SMALLEST_SIX_MTU - SIX_HEADER);
        putMessage(kind, second, p.sixWords + body.length + ICMP_SIX);
        return TRANSLATED;
    }

    private boolean innerFourFits(FourPacket q) {
        if (!mapping.mappable(q.source) || !mapping.mappable(q.target) || neverFromFour(q.protocol)) {
            return false;
        }
        if (q.protocol != ICMP) {
            return true;
        }
        return !q.fragment() && q.there >= 4 && isEchoFour(tape.at(q.payloadAt));
    }

    private static int errorToSix(int type, int code) {
        if (type == 3) {
            return entry(UNREACHABLE_TO_SIX, code);
        }
        if (type == 11) {
            return 0x300 | code;
        }
        return code == 0 || code == 2 ? POINTED_SIX : NONE;
    }

    /** A message's second four bytes; NONE if its pointer can't be translated. */
    private int secondToSix(int kind, FourPacket p, FourPacket q) {
        switch (kind) {
            case NO_SUCH_HEADER_SIX:
                return NEXT_HEADER_POINTER;
            case POINTED_SIX:
                return entry(POINTER_TO_SIX, tape.at(p.payloadAt + 4));
            case TOO_BIG_SIX:
                return mtuToSix(tape.word(p.payloadAt + 6), q.total);
            default:
                return 0;
        }
    }

    private int mtuToSix(int told, int innerTotal) {
        int mtu = (told == 0 ? plateauBelow(innerTotal) : told) + 20;
        return Math.max(SMALLEST_SIX_MTU, Math.min(mtu, Math.min(mtuSix, mtuFour + 20)));
    }

    private static int plateauBelow(int total) {
        for (int plateau : PLATEAUS) {
            if (plateau < total) {
                return plateau;
            }
        }
        return LOWEST_PLATEAU;
    }

    /** An error's inner packet with its checksum as it was: where its payload begins. */
    private int putInnerSix(FourPacket q) {
        int next = q.protocol == ICMP ? ICMP_SIX : q.protocol;
        int extra = q.fragmentHeader();
        putSixHeader(body, MESSAGE_HEADER, q, extra + q.length, q.fragment() ? FRAGMENT : next, q.hops);
        if (q.fragment()) {
            putFragmentHeader(body, MESSAGE_HEADER + SIX_HEADER, next, q.offset, q.more, q.ident);
        }
        int at = MESSAGE_HEADER + SIX_HEADER + extra;
        body.copy(tape, q.payloadAt, at, q.there);
        return at;
    }

    /** The first eight bytes of an error, whose inner packet stands in the body already. */
    private void putMessage(int kind, int second, long pseudo) {
        body.put(0, 2, kind);
        body.put(2, 2, 0);
        body.put(4, 4, second);
        body.put(2, 2, checksum(pseudo + body.sum(0, body.length)));
    }

    private void sendSix(FourPacket p) {
        int next = p.protocol == ICMP ? ICMP_SIX : p.protocol;
        boolean split = !p.dontFragment && SIX_HEADER + p.fragmentHeader() + body.length > SMALLEST_SIX_MTU;
        boolean headed = split || p.fragment();
        int extra = headed ? FRAGMENT_HEADER : 0;
        int begin = 0;
        for (int k = 0; k < MOST_PARTS && begin <= body.length; k++) {
            int left = body.length - begin;
            int size = split ? Math.min(left, SIX_PIECE) : left;
            int at = out.open(SIX_HEADER + extra + size);
            putSixHeader(out.row, at, p, extra + size, headed ? FRAGMENT : next, p.hops - 1);
            if (headed) {
                boolean more = size < left || p.more;
                putFragmentHeader(out.row, at + SIX_HEADER, next, p.offset + begin / 8, more, p.ident);
            }
            out.row.copy(body, begin, at + SIX_HEADER + extra, size);
            if (size == left) {
                break;
            }
            begin += size;
        }
    }

    private void putSixHeader(Row row, int at, FourPacket p, int length, int next, int hops) {
        row.put(at, 4, 0x60000000L | (classKept ? p.tos << 20 : 0));
        row.put(at + 4, 2, length);
        row.put(at + 6, 1, next);
        row.put(at + 7, 1, hops);
        row.put(at + 8, 8, mapping.upperOf(p.source));
        row.put(at + 16, 8, mapping.lowerOf(p.source));
        row.put(at + 24, 8, mapping.upperOf(p.target));
        row.put(at + 32, 8, mapping.lowerOf(p.target));
    }

    private static void putFragmentHeader(Row row, int at, int next, int offset, boolean more, int ident) {
        row.put(at, 2, next << 8);
        row.put(at + 2, 2, offset << 3 | (more ? 1 : 0));
        row.put(at + 4, 4, ident);
    }

    private int answerFour(FourPacket p, int kind, int mtu) {
        boolean echo = p.length > 0 && isEchoFour(tape.at(p.payloadAt));
        if (p.offset != 0 || p.protocol == ICMP && !echo) {
            return UNANSWERABLE;
        }
        int quoted = p.header + Math.min(8, p.length);
        int total = FOUR_HEADER + MESSAGE_HEADER + quoted;
        Row row = out.row;
        int at = out.open(total);
        row.put(at, 4, 0x45000000 | total);
        row.put(at + 4, 4, 0);
        row.put(at + 8, 4, ANSWER_HOPS << 24 | ICMP << 16);
        row.put(at + 12, 4, ownFour);
        row.put(at + 16, 4, p.source);
        row.put(at + 10, 2, checksum(row.sum(at, at + FOUR_HEADER)));
        int message = at + FOUR_HEADER;
        row.put(message, 4, (long) kind << 16);
        row.put(message + 4, 4, mtu);
        row.copy(tape, 0, message + MESSAGE_HEADER, quoted);
        row.put(message + 2, 2, checksum(row.sum(message, at + total)));
        return ANSWERED;
    }

    // ---- from IPv6 ----

    private int verdictOnSix(SixPacket p) {
        if (!p.readWhole(tape)) {
            return MALFORMED;
        }
        long source = mapping.fourOf(tape.number(8, 8), tape.number(16, 8));
        if (source == NONE) {
            return FOREIGN_SOURCE;
        }
        long target = mapping.fourOf(tape.number(24, 8), tape.number(32, 8));
        if (target == NONE) {
            return FOREIGN_TARGET;
        }
        p.setFour(source, target);
        if (p.segments != NONE) {
            return answerSix(p, POINTED_SIX, p.segments);
        }
        if (p.hops <= 1) {
            return answerSix(p, 0x300, 0);
        }
        int fault = faultOfSix(p);
        if (fault != TRANSLATED) {
            return fault;
        }
        if (p.protocol == ICMP_SIX && isErrorSix(tape.at(p.payloadAt))) {
            fault = errorFromSix(p, innerSix);
        } else {
            bodyFromSix(p);
        }
        if (fault != TRANSLATED) {
            return fault;
        }
        int total = FOUR_HEADER + body.length;
        if (total > LONGEST) {
            return DAMAGED;
        }
        if (!p.headed && total > LONGEST_WITHOUT_DF && total > mtuFour) {
            return answerSix(p, TOO_BIG_SIX, mtuFour + 20);
        }
        sendFour(p);
        return TRANSLATED;
    }

    private int faultOfSix(SixPacket p) {
        if (neverFromSix(p.protocol)) {
            return UNKNOWN_KIND;
        }
        if (p.protocol == ICMP_SIX && p.fragment()) {
            return BROKEN_MESSAGE;
        }
        int fault = faultOfTransport(p, false);
        if (fault != TRANSLATED || p.protocol != ICMP_SIX) {
            return fault;
        }
        int type = tape.at(p.payloadAt);
        return isEchoSix(type) || isErrorSix(type) ? TRANSLATED : UNKNOWN_KIND;
    }

    private static boolean isEchoSix(int type) {
        return type == ECHO_SIX || type == ECHO_REPLY_SIX;
    }

    private static boolean isErrorSix(int type) {
        return type >= 1 && type <= 4;
    }

    private void bodyFromSix(SixPacket p) {
        body.copy(tape, p.payloadAt, 0, p.length);
        body.length = p.length;
        fixToFour(p, 0);
    }

    private void fixToFour(SixPacket p, int at) {
        if (p.protocol == ICMP_SIX) {
            int old = body.word(at);
            int type = old >> 8 == ECHO_SIX ? ECHO_FOUR : ECHO_REPLY_FOUR;
            int fresh = type << 8 | old & 255;
            body.put(at, 2, fresh);
            long from = old + p.sixWords + p.length + ICMP_SIX;
            body.put(at + 2, 2, adjusted(body.word(at + 2), from, 1 + SIX_PSEUDO_WORDS, fresh));
        } else {
            fixTransport(p, at, p.sixWords, 16, p.fourWords);
        }
    }

    private int errorFromSix(SixPacket p, SixPacket q) {
        int end = p.payloadAt + p.length;
        if (folded(p.sixWords + p.length + ICMP_SIX + tape.sum(p.payloadAt, end)) != ALL_ONES) {
            return DAMAGED;
        }
        int kind = errorToFour(tape.at(p.payloadAt), tape.at(p.payloadAt + 1));
        if (kind == NONE || !q.read(tape, p.payloadAt + MESSAGE_HEADER, end) || !innerSixFits(q)) {
            return UNTRANSLATABLE;
        }
        int second = secondToFour(kind, tape.number(p.payloadAt + 4, 4));
        if (second == NONE) {
            return UNTRANSLATABLE;
        }
        int at = putInnerFour(q);
        fixToFour(q, at);
        body.length = Math.min(at + q.there, LONGEST_ERROR_FOUR - FOUR_HEADER);
        putMessage(kind, second, 0);
        return TRANSLATED;
    }

    private boolean innerSixFits(SixPacket q) {
        long source = mapping.fourOf(tape.number(q.at + 8, 8), tape.number(q.at + 16, 8));
        long target = mapping.fourOf(tape.number(q.at + 24, 8), tape.number(q.at + 32, 8));
        if (source == NONE || target == NONE || neverFromSix(q.protocol)) {
            return false;
        }
        q.setFour(source, target);
        if (FOUR_HEADER + q.length > LONGEST) {
            return false;
        }
        if (q.protocol != ICMP_SIX) {
            return true;
        }
        return !q.fragment() && q.there >= 4 && isEchoSix(tape.at(q.payloadAt));
    }

    private static int errorToFour(int type, int code) {
        switch (type) {
            case 1:
                return entry(UNREACHABLE_TO_FOUR, code);
            case 2:
                return TOO_BIG_FOUR;
            case 3:
                return 0xb00 | code;
            default:
                return code == 0 ? POINTED_FOUR : code == 1 ? 0x302 : NONE;
        }
    }

    private int secondToFour(int kind, long told) {
        if (kind == TOO_BIG_FOUR) {
            long mtu = Math.max(0, told - 20);
            return (int) Math.min(mtu, Math.min(mtuFour, mtuSix - 20));
        }
        if (kind != POINTED_FOUR) {
            return 0;
        }
        int pointer = entry(POINTER_TO_FOUR, told);
        return pointer == NONE ? NONE : pointer << 24;
    }

    private int putInnerFour(SixPacket q) {
        int total = FOUR_HEADER + q.length;
        putFourHeader(body, MESSAGE_HEADER, q, total, q.flags(total), q.ident, q.hops);
        int at = MESSAGE_HEADER + FOUR_HEADER;
        body.copy(tape, q.payloadAt, at, q.there);
        return at;
    }

    private void sendFour(SixPacket p) {
        int flags = p.flags(FOUR_HEADER + body.length);
        int ident = identFor(p, flags);
        int fits = mtuFour - FOUR_HEADER;
        int begin = 0;
        for (int k = 0; k < MOST_PARTS && begin <= body.length; k++) {
            int left = body.length - begin;
            int size = left <= fits ? left : fits / 8 * 8;
            int at = out.open(FOUR_HEADER + size);
            int more = size < left ? MORE_FRAGMENTS : 0;
            putFourHeader(out.row, at, p, FOUR_HEADER + size, (flags | more) + begin / 8, ident, p.hops - 1);
            out.row.copy(body, begin, at + FOUR_HEADER, size);
            if (size == left) {
                break;
            }
            begin += size;
        }
    }

    private int identFor(SixPacket p, int flags) {
        if (p.headed) {
            return p.ident;
        }
        if ((flags & DONT_FRAGMENT) != 0) {
            return 0;
        }
        counter = counter + 1 & 65535;
        return counter;
    }

    private void putFourHeader(Row row, int at, SixPacket p, int total, int flags, int ident, int hops) {
        row.put(at, 1, 0x45);
        row.put(at + 1, 1, classKept ? p.tos : 0);
        row.put(at + 2, 2, total);
        row.put(at + 4, 2, ident);
        row.put(at + 6, 2, flags);
        row.put(at + 8, 1, hops);
        row.put(at + 9, 1, p.protocol == ICMP_SIX ? ICMP : p.protocol);
        row.put(at + 10, 2, 0);
        row.put(at + 12, 4, p.source);
        row.put(at + 16, 4, p.target);
        row.put(at + 10, 2, checksum(row.sum(at, at + FOUR_HEADER)));
    }

    private int answerSix(SixPacket p, int kind, int second) {
        boolean echo = p.length > 0 && isEchoSix(tape.at(p.payloadAt));
        if (p.offset != 0 || p.protocol == ICMP_SIX && !echo) {
            return UNANSWERABLE;
        }
        int quoted = Math.min(p.payloadAt + p.length, SMALLEST_SIX_MTU - SIX_HEADER - MESSAGE_HEADER);
        int length = MESSAGE_HEADER + quoted;
        Row row = out.row;
        int at = out.open(SIX_HEADER + length);
        row.put(at, 4, 0x60000000L);
        row.put(at + 4, 2, length);
        row.put(at + 6, 1, ICMP_SIX);
        row.put(at + 7, 1, ANSWER_HOPS);
        row.put(at + 8, 8, ownHigh);
        row.put(at + 16, 8, ownLow);
        row.copy(tape, 8, at + 24, 16);
        int message = at + SIX_HEADER;
        row.put(message, 4, (long) kind << 16);
        row.put(message + 4, 4, second);
        row.copy(tape, 0, message + MESSAGE_HEADER, quoted);
        long pseudo = row.sum(at + 8, message) + length + ICMP_SIX;
        row.put(message + 2, 2, checksum(pseudo + row.sum(message, message + length)));
        return ANSWERED;
    }

    // ---- sums ----

    private static int folded(long total) {
        long rest = total;
        for (int k = 0; k < 8 && rest > ALL_ONES; k++) {
            rest = (rest & ALL_ONES) + (rest >>> 16);
        }
        return (int) rest;
    }

    private static int checksum(long total) {
        return ALL_ONES - folded(total);
    }

    /** Turning each of some words and adding them up is the same as taking their total from as many 65535. */
    private static int adjusted(int old, long from, int fromWords, long to) {
        return ALL_ONES - folded(ALL_ONES - old + ((long) ALL_ONES * fromWords - from) + to);
    }

    private static long wordsOf(long number) {
        return (number >>> 48) + (number >>> 32 & ALL_ONES) + (number >>> 16 & ALL_ONES) + (number & ALL_ONES);
    }

    private long imageWords(FourPacket p) {
        return wordsOf(mapping.upperOf(p.source)) + wordsOf(mapping.lowerOf(p.source))
            + wordsOf(mapping.upperOf(p.target)) + wordsOf(mapping.lowerOf(p.target));
    }

    private static int entry(int[] table, long index) {
        return index >= 0 && index < table.length ? table[(int) index] : NONE;
    }

    /** A row of bytes of one length of room; what lies outside is read as 0 and never written. */
    private static final class Row {
        private final byte[] bytes;
        private int length;

        Row(byte[] bytes) {
            this.bytes = bytes;
        }

        int at(int i) {
            return i >= 0 && i < bytes.length ? bytes[i] & 255 : 0;
        }

        int word(int i) {
            return i >= 0 && i < bytes.length - 1 ? (bytes[i] & 255) << 8 | bytes[i + 1] & 255 : 0;
        }

        long number(int i, int width) {
            long value = 0;
            for (int k = 0; k < width; k++) {
                value = value << 8 | at(i + k);
            }
            return value;
        }

        void put(int from, int width, long value) {
            for (int k = 0; k < width; k++) {
                int i = from + k;
                if (i >= 0 && i < bytes.length) {
                    bytes[i] = (byte) (value >>> 8 * (width - 1 - k));
                }
            }
        }

        void copy(Row other, int start, int from, int n) {
            boolean there = n > 0 && start >= 0 && start <= other.bytes.length - n;
            if (there && from >= 0 && from <= bytes.length - n) {
                System.arraycopy(other.bytes, start, bytes, from, n);
            }
        }

        /** The words of these bytes added up, not yet folded; the first byte is a word's upper one. */
        long sum(int from, int to) {
            long total = 0;
            for (int i = from; i < to; i++) {
                int octet = at(i);
                total += (i - from & 1) == 0 ? octet << 8 : octet;
            }
            return total;
        }
    }

    /** The packets that came out, one behind the other in one row. */
    private static final class Parts {
        private final Row row = new Row(new byte[OUT_ROOM]);
        private final int[] starts = new int[MOST_PARTS];
        private final int[] sizes = new int[MOST_PARTS];
        private int number;

        void clear() {
            number = 0;
            row.length = 0;
        }

        /** Room for one more packet: where it begins. */
        int open(int size) {
            int start = row.length;
            if (number >= 0 && number < MOST_PARTS) {
                starts[number] = start;
                sizes[number] = size;
                number++;
                row.length = start + size;
            }
            return start;
        }

        int sizeOf(int k) {
            return k >= 0 && k < number && k < sizes.length ? sizes[k] : NONE;
        }

        int startOf(int k) {
            return k >= 0 && k < number && k < starts.length ? starts[k] : NONE;
        }
    }

    /** The prefix, and which addresses of the two families stand for one another. */
    private static final class Mapping {
        private static final long WELL_KNOWN = 0x0064ff9b00000000L;

        private long high = WELL_KNOWN;
        private long low = 0;
        private int bits = 96;

        static boolean canBePrefix(long high, long low, int bits) {
            switch (bits) {
                case 32:
                case 40:
                case 48:
                case 56:
                    return low == 0 && high << bits == 0;
                case 64:
                    return low == 0;
                case 96:
                    return low >>> 56 == 0 && (low & LOW_32) == 0;
                default:
                    return false;
            }
        }

        boolean mappable(int address) {
            int first = address >>> 24;
            if (first == 0 || first == 127 || first >= 224 || address >>> 16 == 0xa9fe) {
                return false;
            }
            boolean wellKnown = high == WELL_KNOWN && low == 0 && bits == 96;
            boolean closed = first == 10 || address >>> 20 == 0xac1 || address >>> 16 == 0xc0a8;
            return !wellKnown || !closed;
        }

        /** How many of the address's bits stand behind bits 64 to 71. */
        private int bitsBehind() {
            return bits - 32;
        }

        long upperOf(int address) {
            return bits == 96 ? high : high | (address & LOW_32) >>> bitsBehind();
        }

        long lowerOf(int address) {
            long value = address & LOW_32;
            if (bits == 96) {
                return low | value;
            }
            long behind = value & (1L << bitsBehind()) - 1;
            return behind << 56 - bitsBehind();
        }

        /** The mappable address with this image, without sign; NONE. */
        long fourOf(long upper, long lower) {
            long value = bits == 96 ? lower : upper << bitsBehind() | lower >>> 56 - bitsBehind();
            int address = (int) value;
            boolean same = upperOf(address) == upper && lowerOf(address) == lower;
            return same && mappable(address) ? address & LOW_32 : NONE;
        }
    }

    /** What a packet of either family tells, wherever it stands on the tape. */
    private abstract static class Packet {
        int at;
        int tos;
        int hops;
        int protocol;
        int ident;
        boolean more;
        /** In units of eight bytes, as it stands in the packet. */
        int offset;
        int payloadAt;
        /** The payload's bytes by what the header says, and those that are there. */
        int length;
        int there;
        int source;
        int target;
        /** The words of both addresses added up, in each family. */
        long fourWords;
        long sixWords;

        boolean fragment() {
            return more || offset != 0;
        }

        boolean endsTooFar() {
            return fragment() && offset * 8 + length > LONGEST;
        }
    }

    private static final class FourPacket extends Packet {
        private int header;
        private int total;
        private boolean dontFragment;
        private boolean routed;

        boolean readWhole(Row row) {
            return read(row, 0, row.length) && total <= row.length
                && folded(row.sum(0, header)) == ALL_ONES && readOptions(row) && !endsTooFar();
        }

        /** False if it has not its header, or the header can't be one; it may be cut off behind. */
        boolean read(Row row, int from, int end) {
            int first = row.at(from);
            header = (first & 15) * 4;
            total = row.word(from + 2);
            boolean enough = end - from >= FOUR_HEADER && end - from >= header;
            if (!enough || first >> 4 != 4 || header < FOUR_HEADER || total < header) {
                return false;
            }
            at = from;
            tos = row.at(from + 1);
            ident = row.word(from + 4);
            int flags = row.word(from + 6);
            dontFragment = (flags & DONT_FRAGMENT) != 0;
            more = (flags & MORE_FRAGMENTS) != 0;
            offset = flags & 0x1fff;
            hops = row.at(from + 8);
            protocol = row.at(from + 9);
            source = (int) row.number(from + 12, 4);
            target = (int) row.number(from + 16, 4);
            fourWords = row.sum(from + 12, from + 20);
            payloadAt = from + header;
            length = total - header;
            there = Math.min(end, from + total) - payloadAt;
            return true;
        }

        /** False if an option is malformed; tells too whether a source route has still to be gone. */
        private boolean readOptions(Row row) {
            int end = at + header;
            int i = at + FOUR_HEADER;
            routed = false;
            for (int k = 0; k < header && i < end; k++) {
                int kind = row.at(i);
                if (kind == 0) {
                    return true;
                }
                int size = kind == 1 ? 1 : i + 1 < end ? row.at(i + 1) : 0;
                if (size < 1 || size < 2 && kind != 1 || i + size > end) {
                    return false;
                }
                boolean route = kind == 131 || kind == 137;
                if (route && size >= 3 && row.at(i + 2) <= size) {
                    routed = true;
                }
                i += size;
            }
            return true;
        }

        int fragmentHeader() {
            return fragment() ? FRAGMENT_HEADER : 0;
        }
    }

    private static final class SixPacket extends Packet {
        private static final int MOST_HEADERS = 300;

        /** Whether it has a fragment header. */
        private boolean headed;
        /** Where in the packet the first count of segments left stands that is not 0; NONE. */
        private int segments;

        boolean readWhole(Row row) {
            if (row.length < SIX_HEADER || SIX_HEADER + row.word(4) > row.length || !read(row, 0, row.length)) {
                return false;
            }
            return !(more && length % 8 != 0) && !endsTooFar();
        }

        /** False if its headers are not all there, or can't be; it may be cut off behind them. */
        boolean read(Row row, int from, int end) {
            if (end - from < SIX_HEADER || row.at(from) >> 4 != 6) {
                return false;
            }
            at = from;
            tos = row.word(from) >> 4 & 255;
            hops = row.at(from + 7);
            sixWords = row.sum(from + 8, from + SIX_HEADER);
            int whole = from + SIX_HEADER + row.word(from + 4);
            int limit = Math.min(end, whole);
            if (!readHeaders(row, limit)) {
                return false;
            }
            length = whole - payloadAt;
            there = limit - payloadAt;
            return true;
        }

        private boolean readHeaders(Row row, int limit) {
            int next = row.at(at + 6);
            int i = at + SIX_HEADER;
            forgetHeaders();
            for (int k = 0; k < MOST_HEADERS && isHeader(next) && offset == 0; k++) {
                int size = next == FRAGMENT ? FRAGMENT_HEADER : 8 + 8 * row.at(i + 1);
                if (i + size > limit || next == FRAGMENT && headed) {
                    return false;
                }
                if (next == FRAGMENT) {
                    readFragmentHeader(row, i);
                }
                if (next == ROUTING && segments == NONE && row.at(i + 3) != 0) {
                    segments = i + 3 - at;
                }
                next = row.at(i);
                i += size;
            }
            protocol = next;
            payloadAt = i;
            return true;
        }

        private void forgetHeaders() {
            headed = false;
            more = false;
            offset = 0;
            ident = 0;
            segments = NONE;
        }

        private void readFragmentHeader(Row row, int i) {
            headed = true;
            int field = row.word(i + 2);
            offset = field >> 3;
            more = (field & 1) != 0;
            ident = row.word(i + 6);
        }

        private static boolean isHeader(int next) {
            return next == 0 || next == ROUTING || next == FRAGMENT || next == 60;
        }

        void setFour(long fourSource, long fourTarget) {
            source = (int) fourSource;
            target = (int) fourTarget;
            fourWords = wordsOf(fourSource << 32 | fourTarget);
        }

        /** An IPv4 header's flags and offset, for this total length. */
        int flags(int total) {
            if (!headed) {
                return total > LONGEST_WITHOUT_DF ? DONT_FRAGMENT : 0;
            }
            return offset | (more ? MORE_FRAGMENTS : 0);
        }
    }
}
