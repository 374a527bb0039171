/** Counts what is due and what is not, and ends the program with exit code 1 if something is not. */
class Checks {
    static final Class<IndexOutOfBoundsException> INDEX = IndexOutOfBoundsException.class;
    static final Class<IllegalArgumentException> ARGUMENT = IllegalArgumentException.class;
    static final Class<IllegalStateException> STATE = IllegalStateException.class;
    static final int NONE = SplashPages.NONE;

    interface Call {
        void run();
    }

    private int held = 0;
    private int wrong = 0;
    private String sentence = "";

    /** What is due from here on belongs to this sentence of the document. */
    final void sentence(String itsWords) {
        sentence = itsWords + ": ";
    }

    final void due(String what, long got, long want) {
        if (got == want) {
            held++;
        } else {
            wrong++;
            System.out.println(sentence + what + " answered " + got + ", due is " + want);
        }
    }

    final void dueText(String what, String got, String want) {
        if (got.equals(want)) {
            held++;
        } else {
            wrong++;
            System.out.println(sentence + what + " answered " + got + ", due is " + want);
        }
    }

    final void dueShare(String what, double got, double want) {
        due(what, Double.doubleToLongBits(got), Double.doubleToLongBits(want));
    }

    /** The call throws exactly this exception, and changes nothing of the object that the digest tells. */
    final void dueThrow(String what, SplashPages pages, Class<? extends RuntimeException> want, Call call) {
        long before = pages.digest();
        dueText(what, thrownBy(call), want.getName());
        due(what + ": the digest behind it", pages.digest(), before);
    }

    static String thrownBy(Call call) {
        try {
            call.run();
            return "nothing";
        } catch (RuntimeException e) {
            return e.getClass().getName();
        }
    }

    final void end() {
        System.out.println(held + " checks hold, " + wrong + " do not");
        if (wrong > 0 || held == 0) {
            System.exit(1);
        }
    }

    // ---- stories

    static SplashPages told(String text) {
        SplashPages pages = new SplashPages();
        tell(pages, text);
        return pages;
    }

    static void tell(SplashPages pages, String text) {
        write(pages, text);
        pages.story();
    }

    static void write(SplashPages pages, String text) {
        for (int i = 0; i < text.length(); i++) {
            pages.append(text.charAt(i));
        }
    }

    static String splashes(int number) {
        return "s1".repeat(number);
    }

    /** As many plain panels, of the widths 1 to 6 and the beats 1 to 9 in turn, each put in by a call of its own. */
    static SplashPages withPlainPanels(int number) {
        SplashPages pages = new SplashPages();
        for (int i = 0; i < number; i++) {
            pages.put(i, 0, 1 + i % 6, 1 + i % 9);
        }
        return pages;
    }

    // ---- looks

    final void dueCount(SplashPages pages, int what, long want) {
        due("count(" + what + ")", pages.count(what), want);
    }

    final void duePlace(SplashPages pages, int panel, int page, int row, int unit) {
        due("panel " + panel + ": its page", pages.panel(panel, 3), page);
        due("panel " + panel + ": its row", pages.panel(panel, 4), row);
        due("panel " + panel + ": its unit", pages.panel(panel, 5), unit);
    }

    final void duePanel(SplashPages pages, int panel, int kind, int width, int beats) {
        due("panel " + panel + ": its kind", pages.panel(panel, 0), kind);
        due("panel " + panel + ": its width", pages.panel(panel, 1), width);
        due("panel " + panel + ": its beats", pages.panel(panel, 2), beats);
    }

    final void duePage(SplashPages pages, int page, int... wants) {
        for (int what = 0; what < wants.length; what++) {
            due("page(" + page + ", " + what + ")", pages.page(page, what), wants[what]);
        }
    }

    /** The units of a row from 0 on, a letter each panel from 'a' on, a dot for an empty one. */
    final void dueRow(SplashPages pages, int page, int row, String want) {
        StringBuilder got = new StringBuilder();
        for (int unit = 0; unit < 6; unit++) {
            int panel = pages.at(page, row, unit);
            got.append(panel == NONE ? '.' : (char) ('a' + panel));
        }
        dueText("page " + page + ", row " + row, got.toString(), want);
    }

    final void dueRows(SplashPages pages, int page, String... wants) {
        for (int row = 0; row < wants.length; row++) {
            dueRow(pages, page, row, wants[row]);
        }
    }
}
