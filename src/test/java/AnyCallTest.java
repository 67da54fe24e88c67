import java.util.Random;

/** Any calls in any order with any arguments: nothing is thrown but what the document names, exactly that class. */
public final class AnyCallTest {
    private static final Due DUE = new Due();
    private static final Random DICE = new Random(16);

    public static void main(String[] args) {
        for (int round = 0; round < 2000; round++) {
            PacketTranslator x = new PacketTranslator();
            int translated = 0;
            int all = 0;
            for (int k = 0; k < 512; k++) {
                int verdict = call(x);
                translated += verdict == 0 ? 1 : 0;
                all += verdict >= 0 ? 1 : 0;
            }
            int counted = 0;
            for (int what = 0; what <= 10; what++) {
                counted += x.count(what);
            }
            DUE.is("every packet is counted once", counted, all);
            DUE.is("the translated ones", x.count(0), translated);
        }
        DUE.finish();
    }

    private static int any() {
        switch (DICE.nextInt(5)) {
            case 0:
                return DICE.nextInt();
            case 1:
                return DICE.nextBoolean() ? Integer.MIN_VALUE : Integer.MAX_VALUE;
            case 2:
                return DICE.nextInt(2500) - 50;
            default:
                return DICE.nextInt(20) - 2;
        }
    }

    private static int header() {
        return DICE.nextBoolean() ? 0x45000000 | DICE.nextInt(80) : 0x60000000;
    }

    /** The verdict of four or six; -1 of another call. */
    private static int call(PacketTranslator x) {
        int a = any();
        int b = any();
        int c = any();
        switch (DICE.nextInt(16)) {
            case 0:
            case 1:
            case 2:
            case 3:
                named("feed", IllegalStateException.class, () -> x.feed(header(), a, b, c, Wire.PEER));
                return -1;
            case 4:
                named("end", IllegalArgumentException.class, () -> x.end(a));
                return -1;
            case 5:
                named("prefix", IllegalArgumentException.class, () -> x.prefix((long) a << 32, (long) b << 32, DICE.nextInt(13) * 8));
                return -1;
            case 6:
                x.own(a, b, c);
                return -1;
            case 7:
                named("limits", IllegalArgumentException.class, () -> x.limits(a, b));
                return -1;
            case 8:
                x.ways(DICE.nextBoolean(), DICE.nextBoolean());
                return -1;
            case 9:
                return x.four();
            case 10:
                return x.six();
            case 11:
                DUE.is("size", x.size(a) >= 0, a >= 0 && a < x.parts());
                return -1;
            case 12:
                named("octet", IndexOutOfBoundsException.class, () -> x.octet(a, b));
                return -1;
            case 13:
                named("check", IndexOutOfBoundsException.class, () -> x.check(a, b, c));
                return -1;
            case 14:
                DUE.is("image and address", x.address(x.image(a, false), x.image(a, true)),
                    x.image(a, false) == 0 && x.image(a, true) == 0 ? -1 : a & 0xffffffffL);
                return -1;
            default:
                DUE.is("count", x.count(a) != -1, a >= 0 && a <= 15);
                return -1;
        }
    }

    private static void named(String what, Class<?> only, Runnable call) {
        try {
            call.run();
        } catch (RuntimeException e) {
            DUE.is(what + " threw " + e, e.getClass() == only, true);
        }
    }
}
