/** Compares answers with those that are due, and ends a test program. */
final class Check {
    private final String name;
    private int passed = 0;
    private int failed = 0;

    Check(String name) {
        this.name = name;
    }

    void due(String call, long got, long want) {
        isTrue(call + " answered " + got + ", due is " + want, got == want);
    }

    void due(String call, float got, float want) {
        isTrue(call + " answered " + got + ", due is " + want, got == want);
    }

    void isTrue(String fault, boolean holds) {
        if (holds) {
            passed++;
        } else {
            failed++;
            System.out.println(name + ": " + fault);
        }
    }

    void end() {
        System.out.println(name + ": " + passed + " answers as due, " + failed + " not");
        if (failed > 0) {
            System.exit(1);
        }
    }

    /** Empties the text and writes another one. */
    static CaptainTides write(CaptainTides x, String text) {
        x.clearText();
        for (char sign : text.toCharArray()) {
            x.type(sign);
        }
        return x;
    }

    /** All that is told of the state, of the text's length and of the history's, as one text. */
    static String picture(CaptainTides x) {
        StringBuilder told = new StringBuilder(stateOf(x));
        told.append(" history ").append(x.count(10)).append(" text ").append(x.count(11));
        told.append(" fault ").append(x.fault());
        return told.toString();
    }

    /** All that is told of the state, without the text, the history and the snapshot. */
    static String stateOf(CaptainTides x) {
        StringBuilder told = new StringBuilder();
        for (int what = 0; what <= 13; what++) {
            if (what != 10 && what != 11) {
                told.append(x.count(what)).append(' ');
            }
        }
        for (int captain = 0; captain < 3; captain++) {
            for (int what = 0; what <= 10; what++) {
                told.append(x.captainOf(captain, what)).append(' ');
            }
        }
        return told.append(x.made()).toString();
    }
}
