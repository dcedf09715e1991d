/** Counts the answers of one test, prints each that isn't the one due, and ends the test. */
final class Check {
    private int asked = 0;
    private int wrong = 0;

    void due(String what, long got, long want) {
        asked++;
        if (got != want) {
            wrong++;
            System.out.println(what + " answered " + got + ", due is " + want);
        }
    }

    void due(String what, boolean got, boolean want) {
        due(what, got ? 1 : 0, want ? 1 : 0);
    }

    /** Puts a text on the tape in place of what is there, as a caller would. */
    static void write(MoonLodger farm, String text) {
        farm.end(0);
        for (int from = 0; from < text.length(); from += 20) {
            farm.feed(four(text, from), four(text, from + 4), four(text, from + 8), four(text, from + 12),
                    four(text, from + 16));
        }
        farm.end(text.length());
    }

    static int tell(MoonLodger farm, String text) {
        write(farm, text);
        return farm.text();
    }

    void fault(String text, int fault, int place) {
        MoonLodger farm = new MoonLodger();
        due("text of '" + text + "'", tell(farm, text), fault == 0 ? 0 : MoonLodger.NONE);
        due("fault(0) of '" + text + "'", farm.fault(0), fault);
        due("fault(1) of '" + text + "'", farm.fault(1), place);
        due("tape behind '" + text + "'", farm.about(8), 0);
    }

    void end(String name) {
        System.out.println(name + ": " + (asked - wrong) + " answers as due, " + wrong + " not");
        if (wrong != 0 || asked == 0) {
            System.exit(1);
        }
    }

    private static int four(String text, int from) {
        int value = 0;
        for (int i = from; i < from + 4; i++) {
            value = value << 8 | (i < text.length() ? text.charAt(i) & 255 : 0);
        }
        return value;
    }
}
