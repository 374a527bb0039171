/** The edges of pouring: the last unit, the last row, the last page, exactly the setting, and what is left out. */
public final class PouringEdgesTest extends Checks {
    public static void main(String[] args) {
        PouringEdgesTest test = new PouringEdgesTest();
        test.pagesRowsAndUnits();
        test.outerEdges();
        test.splashOnThePageOfNow();
        test.splashOnTheLastPage();
        test.pageBehindASplash();
        test.spreadOnThePageOfNow();
        test.spreadBehindBlankPages();
        test.spreadOnTheLastPages();
        test.pageBehindASpread();
        test.beatsUpToTheSetting();
        test.beatsBeginRow0AndUnit0();
        test.beatsOfThePageOfNowAlone();
        test.beatsOnTheLastPage();
        test.rowWithUnitsLeft();
        test.rowBehindRow3();
        test.rowOnTheLastPage();
        test.bleedingOnTheRight();
        test.bleedingOnTheRightBehindRow3();
        test.bleedingOnTheLeft();
        test.bleedingOnTheLeftBehindRow3();
        test.bleedingOnTheLastPages();
        test.bleedingBehindTooManyBeats();
        test.allBehindOneLeftOut();
        test.panelsThatAreLeftOut();
        test.leftOutOnesComeBack();
        test.all24PanelsOnOnePage();
        test.all24PanelsLeftOutOrNot();
        test.end();
    }

    private void dueSecond(String text, int page, int row, int unit) {
        duePlace(told(text), 1, page, row, unit);
    }

    /** The last panel of the text, and how many are left out. */
    private void dueLast(String text, int page, int row, int unit, int leftOut) {
        SplashPages pages = told(text);
        due(text + ": page of the last", pages.panel(pages.count(0) - 1, 3), page);
        due(text + ": row of the last", pages.panel(pages.count(0) - 1, 4), row);
        due(text + ": unit of the last", pages.panel(pages.count(0) - 1, 5), unit);
        due(text + ": left out", pages.count(3), leftOut);
    }

    // ---- pages

    private void pagesRowsAndUnits() {
        sentence("there are 16 pages; a page has 4 rows of 6 units each");
        SplashPages pages = told(splashes(15) + "p61p61p61p51p11");
        dueRows(pages, 15, "pppppp", "qqqqqq", "rrrrrr", "ssssst");
        for (int page = 0; page < 15; page++) {
            for (int row = 0; row < 4; row++) {
                dueRow(pages, page, row, String.valueOf((char) ('a' + page)).repeat(6));
            }
        }
        dueCount(pages, 1, 16);
        dueCount(pages, 5, 0);
        dueCount(pages, 3, 0);
    }

    private void outerEdges() {
        sentence("the outer edge of a page on the right is at the unit 0, that of a page on the left at the unit 5");
        for (int page = 0; page < 16; page++) {
            SplashPages pages = told(splashes(page) + "b11");
            duePlace(pages, page, page, 0, page % 2 == 0 ? 0 : 5);
        }
    }

    // ---- splash panels

    private void splashOnThePageOfNow() {
        sentence("a splash takes the page of now, if nothing is set on it, and otherwise the next one");
        dueLast("s1", 0, NONE, NONE, 0);
        dueLast("s1s1", 1, NONE, NONE, 0);
        dueLast("p11s1", 1, NONE, NONE, 0);
        dueLast("p61p61p61p61s1", 1, NONE, NONE, 0);
        dueLast("p61p61p61p61p11s1", 2, NONE, NONE, 0);
        dueLast("s1p11s1", 2, NONE, NONE, 0);
        dueLast("s1b11s1", 2, NONE, NONE, 0);
        dueLast("d1s1", 2, NONE, NONE, 0);
        dueLast("d1p11s1", 3, NONE, NONE, 0);
    }

    private void splashOnTheLastPage() {
        sentence("a splash on the page 15, and one that would need the page 16");
        dueLast(splashes(16), 15, NONE, NONE, 0);
        dueLast(splashes(17), NONE, NONE, NONE, 1);
        dueLast(splashes(14) + "p11s1", 15, NONE, NONE, 0);
        dueLast(splashes(15) + "p11s1", NONE, NONE, NONE, 1);
        dueLast(splashes(13) + "d1s1", NONE, NONE, NONE, 1);
        dueLast("d1d1d1d1d1d1d1s1s1", 15, NONE, NONE, 0);
    }

    private void pageBehindASplash() {
        sentence("the page behind a splash is the page of now then, with nothing set on it");
        dueLast("s1p11", 1, 0, 0, 0);
        dueLast("p61p31s1p11", 2, 0, 0, 0);
        dueLast("p61p31s1b21", 2, 0, 0, 0);
        SplashPages pages = told("s9p19p11");
        pages.set(9);
        duePlace(pages, 1, 1, 0, 0);
        duePlace(pages, 2, 2, 0, 0);
        dueLast(splashes(15) + "p11", 15, 0, 0, 0);
        dueLast(splashes(16) + "p11", NONE, NONE, NONE, 1);
        dueLast(splashes(16) + "b11", NONE, NONE, NONE, 1);
    }

    // ---- spreads

    private void spreadOnThePageOfNow() {
        sentence("a spread takes the page of now and the next one, if nothing is set on it, and it is on the right");
        SplashPages pages = told("d1");
        duePlace(pages, 0, 0, NONE, NONE);
        for (int row = 0; row < 4; row++) {
            dueRow(pages, 0, row, "aaaaaa");
            dueRow(pages, 1, row, "aaaaaa");
            dueRow(pages, 2, row, "......");
        }
        dueLast("d1d1", 2, NONE, NONE, 0);
        dueLast("s1s1d1", 2, NONE, NONE, 0);
    }

    private void spreadBehindBlankPages() {
        sentence("otherwise the next ones of which that is so (pages between are left blank)");
        dueLast("s1d1", 2, NONE, NONE, 0);
        duePage(told("s1d1"), 1, 0, 0, 24, NONE, 1, 0);
        dueLast("p11d1", 2, NONE, NONE, 0);
        duePage(told("p11d1"), 1, 0, 0, 24, NONE, 1, 0);
        dueLast("s1p11d1", 2, NONE, NONE, 0);
        dueCount(told("s1p11d1"), 2, 0);
        dueLast("s1s1p11d1", 4, NONE, NONE, 0);
        duePage(told("s1s1p11d1"), 3, 0, 0, 24, NONE, 1, 0);
        dueLast("d1s1d1", 4, NONE, NONE, 0);
        dueCount(told("d1s1d1"), 2, 1);
        SplashPages most = told("s1d1s1d1s1d1s1d1");
        duePlace(most, 7, 14, NONE, NONE);
        dueCount(most, 1, 16);
        dueCount(most, 2, 4);
        dueCount(most, 3, 0);
    }

    private void spreadOnTheLastPages() {
        sentence("a spread on the pages 14 and 15, and one that would need the page 16");
        dueLast(splashes(14) + "d1", 14, NONE, NONE, 0);
        dueLast(splashes(13) + "d1", 14, NONE, NONE, 0);
        dueLast(splashes(13) + "p11d1", 14, NONE, NONE, 0);
        dueLast(splashes(12) + "p11d1", 14, NONE, NONE, 0);
        duePage(told(splashes(12) + "p11d1"), 13, 0, 0, 24, NONE, 1, 0);
        dueLast(splashes(14) + "p11d1", NONE, NONE, NONE, 1);
        dueLast(splashes(15) + "d1", NONE, NONE, NONE, 1);
        dueLast(splashes(15) + "p11d1", NONE, NONE, NONE, 1);
        dueLast(splashes(16) + "d1", NONE, NONE, NONE, 1);
        dueLast("d1d1d1d1d1d1d1d1", 14, NONE, NONE, 0);
        dueLast("d1d1d1d1d1d1d1d1d1", NONE, NONE, NONE, 1);
        // The page that would be blank ahead of a spread is not used if the spread is left out.
        SplashPages pages = told(splashes(15) + "d1");
        duePage(pages, 15, 0, 0, 24, NONE, 0, 0);
        dueCount(pages, 1, 15);
        dueCount(pages, 2, 0);
    }

    private void pageBehindASpread() {
        sentence("the page behind a spread is the page of now then");
        dueLast("d1p11", 2, 0, 0, 0);
        dueLast("p61p31d1p11", 4, 0, 0, 0);
        dueLast("p61p31d1b21", 4, 0, 0, 0);
        SplashPages pages = told("d9p19p11");
        pages.set(9);
        duePlace(pages, 1, 2, 0, 0);
        duePlace(pages, 2, 3, 0, 0);
        dueLast(splashes(14) + "d1p11", NONE, NONE, NONE, 1);
        dueLast(splashes(14) + "d1b11", NONE, NONE, NONE, 1);
        dueLast(splashes(14) + "d1s1", NONE, NONE, NONE, 1);
    }

    // ---- beats

    private void beatsUpToTheSetting() {
        sentence("first, if its beats, with those of the panel, are above the setting");
        dueLast("p19p19p19p13", 0, 0, 3, 0);
        dueLast("p19p19p19p14", 1, 0, 0, 0);
        SplashPages least = told("p15p14p15");
        least.set(9);
        duePlace(least, 1, 0, 0, 1);
        duePlace(least, 2, 1, 0, 0);
        SplashPages nine = told("p19p11");
        nine.set(9);
        duePlace(nine, 0, 0, 0, 0);
        duePlace(nine, 1, 1, 0, 0);
        SplashPages most = told("p19p19p19p19p19p19p16");
        most.set(60);
        duePlace(most, 6, 0, 1, 0);
        dueCount(most, 4, 60);
        most.set(59);
        duePlace(most, 6, 1, 0, 0);
        most.set(60);
        most.change(6, 1, 7);
        duePlace(most, 6, 1, 0, 0);
    }

    private void beatsBeginRow0AndUnit0() {
        sentence("the next page becomes the page of now, with its row 0 and the unit 0");
        dueLast("p61p68p69p39p19", 1, 0, 0, 0);
        dueLast("s1p61p68p69p39p19", 2, 0, 0, 0);
        dueLast("p61p68p69p39p19p31", 1, 0, 1, 0);
        // One page more, though the units of the row would not do either.
        dueLast("p69p69p69p51p29", 1, 0, 0, 0);
    }

    private void beatsOfThePageOfNowAlone() {
        sentence("if something is set on the page of now, and its beats, with those of the panel");
        // Four rows with 28 beats; the next one begins the page 1 by its width, whose beats begin at 0.
        SplashPages pages = told("p69p69p69p61p62p69p69p69p11");
        dueRows(pages, 1, "eeeeee", "ffffff", "gggggg", "hhhhhh");
        duePage(pages, 1, 4, 29, 0, 4, 0, 0);
        duePlace(pages, 8, 2, 0, 0);
        // A splash takes a page by itself, whatever the beats: nothing is asked of the setting.
        SplashPages splash = told("p11s9");
        splash.set(9);
        duePlace(splash, 1, 1, NONE, NONE);
        dueCount(splash, 1, 2);
    }

    private void beatsOnTheLastPage() {
        sentence("beats above the setting on the page 15");
        dueLast(splashes(15) + "p19p19p19p13", 15, 0, 3, 0);
        dueLast(splashes(15) + "p19p19p19p14", NONE, NONE, NONE, 1);
        dueLast(splashes(15) + "p19p19p19b14", NONE, NONE, NONE, 1);
        SplashPages pages = told(splashes(15) + "p19p19p19p14p11");
        dueCount(pages, 3, 2);
        duePage(pages, 15, 3, 27, 21, 15, 0, 0);
    }

    // ---- rows

    private void rowWithUnitsLeft() {
        sentence("second, if fewer units are left in the row of now, from the next one on, than its width");
        dueSecond("p31p31", 0, 0, 3);
        dueSecond("p31p41", 0, 1, 0);
        dueSecond("p51p11", 0, 0, 5);
        dueSecond("p51p21", 0, 1, 0);
        dueSecond("p61p11", 0, 1, 0);
        dueSecond("p11p51", 0, 0, 1);
        dueSecond("p11p61", 0, 1, 0);
        dueSecond("p61p61", 0, 1, 0);
        SplashPages pages = told("p51p21p11");
        dueRows(pages, 0, "aaaaa.", "bbc...", "......", "......");
    }

    private void rowBehindRow3() {
        sentence("and behind the row 3 the next page");
        dueLast("p61p61p61p51p11", 0, 3, 5, 0);
        dueLast("p61p61p61p51p21", 1, 0, 0, 0);
        dueLast("p61p61p61p61p11", 1, 0, 0, 0);
        dueLast("s1p61p61p61p41p31", 2, 0, 0, 0);
        dueLast("s1p61p61p61p41p21", 1, 3, 4, 0);
        dueLast("p61p61p61p51p21p41", 1, 0, 2, 0);
    }

    private void rowOnTheLastPage() {
        sentence("the row 3 of the page 15");
        dueLast(splashes(15) + "p61p61p61p51p11", 15, 3, 5, 0);
        dueLast(splashes(15) + "p61p61p61p51p21", NONE, NONE, NONE, 1);
        dueLast(splashes(15) + "p61p61p61p61p11", NONE, NONE, NONE, 1);
        dueLast(splashes(15) + "p61p61p61p51p21p11", NONE, NONE, NONE, 2);
    }

    // ---- panels that bleed

    private void bleedingOnTheRight() {
        sentence("third, if it bleeds, the page of now is on the right, and the next unit is not 0");
        dueLast("b11", 0, 0, 0, 0);
        dueLast("b61", 0, 0, 0, 0);
        dueSecond("b21b21", 0, 1, 0);
        dueSecond("p11b11", 0, 1, 0);
        dueSecond("p51b11", 0, 1, 0);
        // The second rule has begun the row already, at the unit 0, so the third begins no other.
        dueSecond("p11b61", 0, 1, 0);
        dueSecond("p61b11", 0, 1, 0);
        sentence("the next unit is then the one behind it");
        dueSecond("b21p11", 0, 0, 2);
        dueSecond("b61p11", 0, 1, 0);
        dueSecond("b21p41", 0, 0, 2);
        dueSecond("b21p51", 0, 1, 0);
    }

    private void bleedingOnTheRightBehindRow3() {
        sentence("behind the row 3 the next page, which is on the left then");
        dueLast("p61p61p61p11b21", 1, 0, 4, 0);
        dueLast("p61p61p61p11b51", 1, 0, 1, 0);
        dueLast("p61p61p61p51b11", 1, 0, 5, 0);
        dueLast("p61p61p61p51b21", 1, 0, 4, 0);
        dueLast("p61p61p61p61b11", 1, 0, 5, 0);
        dueLast("p61p61p61b61", 0, 3, 0, 0);
        dueLast("b11b11b11b11", 0, 3, 0, 0);
        dueLast("b11b11b11b11b11", 1, 0, 5, 0);
        dueLast("p61p61p61p11b21p11", 1, 1, 0, 0);
    }

    private void bleedingOnTheLeft() {
        sentence("if it bleeds and the page of now is on the left, it is set so that it ends at the unit 5");
        dueSecond("s1b11", 1, 0, 5);
        dueSecond("s1b61", 1, 0, 0);
        dueLast("s1p11b21", 1, 0, 4, 0);
        dueLast("s1p41b21", 1, 0, 4, 0);
        dueLast("s1p51b11", 1, 0, 5, 0);
        dueLast("s1p51b21", 1, 1, 4, 0);
        dueLast("s1p61b61", 1, 1, 0, 0);
        dueLast("s1p11b61", 1, 1, 0, 0);
        SplashPages pages = told("s1p11b21b31p21p21");
        dueRows(pages, 1, "b...cc", "...ddd", "eeff..", "......");
        duePage(pages, 1, 5, 5, 14, 1, 0, 2);
        sentence("otherwise it is set at the next unit");
        dueLast("s1p21p21", 1, 0, 2, 0);
        dueLast("s1b11p11", 1, 1, 0, 0);
    }

    private void bleedingOnTheLeftBehindRow3() {
        sentence("a bleeding panel behind the row 3 of a page on the left");
        dueLast("s1p61p61p61p41b21", 1, 3, 4, 0);
        dueLast("s1p61p61p61p51b21", 2, 0, 0, 0);
        dueLast("s1p61p61p61p61b61", 2, 0, 0, 0);
        dueLast("s1b11b11b11b11b11", 2, 0, 0, 0);
        dueLast("s1b11b11b11b11p11", 2, 0, 0, 0);
    }

    private void bleedingOnTheLastPages() {
        sentence("a bleeding panel on the pages 14 and 15");
        dueLast(splashes(14) + "p61p61p61p11b21", 15, 0, 4, 0);
        dueLast(splashes(15) + "p61p61p61p41b21", 15, 3, 4, 0);
        dueLast(splashes(15) + "p61p61p61p51b21", NONE, NONE, NONE, 1);
        dueLast(splashes(15) + "p61p61p61b11p11", NONE, NONE, NONE, 1);
        dueLast(splashes(15) + "b11b11b11b11", 15, 3, 5, 0);
        dueLast(splashes(15) + "b11b11b11b11b11", NONE, NONE, NONE, 1);
    }

    private void bleedingBehindTooManyBeats() {
        sentence("a bleeding panel whose beats begin the next page");
        dueLast("p19p19p19b23", 0, 1, 0, 0);
        dueLast("p19p19p19b24", 1, 0, 4, 0);
        dueLast("s1p19p19p19b23", 1, 0, 4, 0);
        dueLast("s1p19p19p19b24", 2, 0, 0, 0);
        dueLast("b19b19b19b14", 1, 0, 5, 0);
    }

    // ---- panels that are left out

    private void allBehindOneLeftOut() {
        sentence("if a page would be needed that is not there, the panel is left out, and so are all behind it");
        dueLast(splashes(15) + "d1s1", NONE, NONE, NONE, 2);
        dueLast(splashes(15) + "d1p11", NONE, NONE, NONE, 2);
        dueLast(splashes(15) + "d1b11d1", NONE, NONE, NONE, 3);
        dueLast(splashes(15) + "p19p19p19p14p11", NONE, NONE, NONE, 2);
        dueLast(splashes(15) + "p11s1p11", NONE, NONE, NONE, 2);
        dueLast(splashes(15) + "p61p61p61p41p31b21", NONE, NONE, NONE, 2);
    }

    private void panelsThatAreLeftOut() {
        sentence("panels that are left out are on no page");
        SplashPages pages = told(splashes(15) + "d1b24s3p35");
        duePanel(pages, 15, 3, 6, 1);
        duePanel(pages, 16, 1, 2, 4);
        duePanel(pages, 17, 2, 6, 3);
        duePanel(pages, 18, 0, 3, 5);
        for (int panel = 15; panel <= 18; panel++) {
            duePlace(pages, panel, NONE, NONE, NONE);
        }
        dueRows(pages, 15, "......", "......", "......", "......");
        dueCount(pages, 0, 19);
        dueCount(pages, 1, 15);
        dueCount(pages, 3, 4);
        dueCount(pages, 4, 1);
        dueCount(pages, 5, 0);
    }

    private void leftOutOnesComeBack() {
        sentence("panels that are left out, and then are not");
        SplashPages pages = told(splashes(15) + "d1s2p11");
        due("take", pages.take(15), 17);
        duePlace(pages, 15, 15, NONE, NONE);
        duePlace(pages, 16, NONE, NONE, NONE);
        dueCount(pages, 3, 1);
        due("take", pages.take(0), 16);
        duePlace(pages, 14, 14, NONE, NONE);
        duePlace(pages, 15, 15, 0, 0);
        dueCount(pages, 3, 0);
        due("put ahead of all", pages.put(0, 2, 6, 1), 17);
        duePlace(pages, 15, 15, NONE, NONE);
        duePlace(pages, 16, NONE, NONE, NONE);
        dueCount(pages, 3, 1);
        pages.undo();
        duePlace(pages, 15, 15, 0, 0);
        dueCount(pages, 3, 0);
    }

    private void all24PanelsOnOnePage() {
        sentence("24 panels on one page");
        SplashPages pages = new SplashPages();
        pages.set(48);
        for (int i = 0; i < 24; i++) {
            pages.put(i, 0, 1, 2);
        }
        dueRows(pages, 0, "abcdef", "ghijkl", "mnopqr", "stuvwx");
        duePage(pages, 0, 24, 48, 0, 0, 0, 0);
        duePage(pages, 1, 0, 0, 24, NONE, 0, 0);
        duePlace(pages, 23, 0, 3, 5);
        dueShare("fullness()", pages.fullness(), 1.0);
        pages.set(47);
        duePage(pages, 0, 23, 46, 1, 0, 0, 0);
        duePlace(pages, 23, 1, 0, 0);
    }

    private void all24PanelsLeftOutOrNot() {
        sentence("24 panels that need more than 16 pages");
        SplashPages spreads = told("d1".repeat(24));
        dueCount(spreads, 0, 24);
        dueCount(spreads, 1, 16);
        dueCount(spreads, 3, 16);
        duePlace(spreads, 7, 14, NONE, NONE);
        duePlace(spreads, 8, NONE, NONE, NONE);
        duePlace(spreads, 23, NONE, NONE, NONE);
        SplashPages splashes = told(splashes(24));
        dueCount(splashes, 1, 16);
        dueCount(splashes, 3, 8);
        duePlace(splashes, 15, 15, NONE, NONE);
        duePlace(splashes, 16, NONE, NONE, NONE);
        SplashPages plain = new SplashPages();
        plain.set(9);
        for (int i = 0; i < 24; i++) {
            plain.put(i, i % 2, 6, 9);
        }
        dueCount(plain, 1, 16);
        dueCount(plain, 3, 8);
        duePlace(plain, 15, 15, 0, 0);
        duePlace(plain, 16, NONE, NONE, NONE);
    }
}
