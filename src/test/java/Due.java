/** Counts the answers that are not the ones that are due, and prints them. */
final class Due {
    private int wrong = 0;
    private int asked = 0;
    private String sentence = "";

    /** The document's sentence that the next answers are held against. */
    void about(String words) {
        sentence = words;
    }

    private void tell(String what) {
        wrong++;
        System.out.println(sentence.isEmpty() ? what : "\"" + sentence + "\": " + what);
    }

    void is(String what, long got, long want) {
        asked++;
        if (got != want) {
            tell(what + " answered " + got + ", due is " + want);
        }
    }

    void is(String what, boolean got, boolean want) {
        is(what, got ? 1 : 0, want ? 1 : 0);
    }

    void bytes(String what, byte[] got, byte[] want) {
        asked++;
        if (!java.util.Arrays.equals(got, want)) {
            tell(what + " answered " + Wire.text(got) + ", due is " + Wire.text(want));
        }
    }

    /** The call's exception has exactly this class; null: it throws none. */
    void thrown(String what, Class<?> want, Runnable call) {
        asked++;
        Class<?> got = null;
        try {
            call.run();
        } catch (RuntimeException e) {
            got = e.getClass();
        }
        if (got != want) {
            tell(what + " threw " + got + ", due is " + want);
        }
    }

    void finish() {
        System.out.println(asked + " answers asked for, " + wrong + " wrong");
        if (wrong != 0 || asked == 0) {
            System.exit(1);
        }
    }
}
