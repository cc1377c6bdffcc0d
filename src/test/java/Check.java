/** What the tests share: counting wrong answers, and putting a text on the tape. */
final class Check {
    static int wrong = 0;
    static int done = 0;
    /** The test that is run, told ahead of every wrong answer. */
    static String within = "";

    private Check() {
    }

    static void due(String what, long got, long want) {
        done++;
        if (got != want) {
            wrong++;
            System.out.println(within + what + " answered " + got + ", due is " + want);
        }
    }

    static void due(String what, boolean got, boolean want) {
        due(what, got ? 1L : 0L, want ? 1L : 0L);
    }

    static void tape(DawnPerquisite x, String text) {
        x.end(0);
        for (int i = 0; i < text.length(); i += 20) {
            x.feed(four(text, i), four(text, i + 4), four(text, i + 8), four(text, i + 12), four(text, i + 16));
        }
        x.end(text.length());
    }

    static int four(String text, int from) {
        int four = 0;
        for (int i = from; i < from + 4; i++) {
            four = four << 8 | (i < text.length() ? text.charAt(i) & 255 : 0);
        }
        return four;
    }

    static int text(DawnPerquisite x, String text) {
        tape(x, text);
        return x.text();
    }

    /** The fault of a text, and its place. */
    static void fault(String text, int fault, int place) {
        DawnPerquisite x = new DawnPerquisite();
        due("text '" + text + "'", text(x, text), fault == 0 ? 0 : -1);
        due("fault of '" + text + "'", x.fault(0), fault);
        due("place in '" + text + "'", x.fault(1), place);
        due("texts behind '" + text + "'", x.about(1), fault == 0 ? 1 : 0);
        due("tape behind '" + text + "'", x.about(6), 0);
    }

    /** What a SUM bids for a buyer of slices 2 .. 6 that wants sorts 0 and 2, purse 77, on dawn 0 of a new wall. */
    static void bids(String sum, int want) {
        DawnPerquisite x = new DawnPerquisite();
        x.buyer(1, 0, 1, 5);
        x.buyer(5, 2, 6, 77);
        due("text of " + sum, text(x, "bids " + sum + ";"), 0);
        x.by(0);
        due("bids " + sum, x.of(1, 4), want);
    }

    static void report(String test) {
        System.out.println(test + ": " + done + " answers, " + wrong + " wrong");
        if (wrong != 0) {
            System.exit(1);
        }
    }
}
