/** What every test program uses: counts answers, tells the wrong ones, ends with 1 if there was one. */
final class Due {
    private static int right = 0;
    private static int wrong = 0;

    private Due() {
    }

    static void due(String call, long got, long want) {
        if (got == want) {
            right++;
            return;
        }
        wrong++;
        if (wrong <= 40) System.out.println(call + " answered " + got + ", due is " + want);
    }

    static void due(String call, String got, String want) {
        if (!got.equals(want)) System.out.println(call + " is [" + got + "], due is [" + want + "]");
        due(call, got.equals(want) ? 1 : 0, 1);
    }

    static void feed(TripRounds x, String text) {
        for (int i = 0; i < text.length(); i++) x.feed(text.charAt(i));
    }

    /** Feeds the text and reads it as a timetable. */
    static int table(TripRounds x, String text) {
        feed(x, text);
        return x.table();
    }

    /** An object with these texts read; each must be without a fault. */
    static TripRounds with(String... texts) {
        TripRounds x = new TripRounds();
        for (String text : texts) {
            int parts = table(x, text);
            if (parts < 1) due("table of " + text, parts, 1);
        }
        return x;
    }

    static String paper(TripRounds x) {
        StringBuilder text = new StringBuilder();
        for (int i = 0; x.paper(i) > 0; i++) text.append((char) x.paper(i));
        return text.toString();
    }

    static void end() {
        System.out.println(right + " answers as due, " + wrong + " not");
        if (wrong != 0 || right == 0) System.exit(1);
    }
}
