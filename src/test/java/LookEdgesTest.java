import java.math.BigInteger;
import java.util.ArrayList;
import java.util.List;

/** The edges of what a panel, a page and the whole answer, of what would be, and of the hash. */
public final class LookEdgesTest extends Checks {
    public static void main(String[] args) {
        LookEdgesTest test = new LookEdgesTest();
        test.numbersOfPanelsBehindOneTakenOut();
        test.numbersOfPanelsBehindOnePutIn();
        test.changeReturnsThePagesUsed();
        test.setReturnsThePreviousSetting();
        test.panelTellsRowAndUnit();
        test.widthOfASplashOrSpreadDoesNotMatter();
        test.pageTellsPanelsAndBeats();
        test.pageTellsEmptyUnits();
        test.pageTellsItsFirstPanel();
        test.pageTellsIfItIsLeftBlank();
        test.pageTellsPanelsThatBleed();
        test.lastPageTellsTheSame();
        test.atTellsAllUnitsOfASpread();
        test.pagesUsedAndBlank();
        test.greatestBeats();
        test.emptyUnitsOfAll();
        test.facingPages();
        test.exchangeOfTheFirstAndTheLastTwo();
        test.exchangeOfKindsWidthsAndBeats();
        test.exchangeWithOneLeftOut();
        test.leastSettingAtItsEnds();
        test.leastSettingLeavesOutNoMore();
        test.bestWidthByPanelsLeftOutFirst();
        test.bestWidthOfSeveralTheLeast();
        test.fullnessWithoutAnyAndFull();
        test.digestOfANewObject();
        test.digestOfManyObjects();
        test.digestTellsEachCharacter();
        test.end();
    }

    // ---- what the calls answer

    private void numbersOfPanelsBehindOneTakenOut() {
        sentence("if one is taken out, those behind it have numbers that are less by 1");
        for (int out = 0; out < 24; out++) {
            SplashPages pages = withPlainPanels(24);
            due("take(" + out + ")", pages.take(out), 23);
            for (int panel = 0; panel < 23; panel++) {
                int before = panel < out ? panel : panel + 1;
                duePanel(pages, panel, 0, 1 + before % 6, 1 + before % 9);
            }
        }
    }

    private void numbersOfPanelsBehindOnePutIn() {
        sentence("if one is put in, those from its number on have numbers that are greater by 1");
        for (int at = 0; at < 24; at++) {
            SplashPages pages = withPlainPanels(23);
            due("put(" + at + ", ..)", pages.put(at, 3, 5, 7), 24);
            duePanel(pages, at, 3, 5, 7);
            for (int before = 0; before < 23; before++) {
                duePanel(pages, before < at ? before : before + 1, 0, 1 + before % 6, 1 + before % 9);
            }
        }
    }

    private void changeReturnsThePagesUsed() {
        sentence("change returns how many pages are used then (up to the last one on which something is set)");
        due("one page", told("p11").change(0, 6, 9), 1);
        due("a spread", told("d1").change(0, 1, 9), 2);
        due("a blank page ahead of a spread", told("p11d1").change(0, 2, 2), 4);
        due("16 pages", told(splashes(16)).change(3, 1, 9), 16);
        due("16 pages and panels left out", told(splashes(24)).change(23, 1, 9), 16);
        due("15 pages and a spread left out", told(splashes(15) + "d1").change(15, 1, 9), 15);
        SplashPages pages = told("p61p61p61p51p21");
        due("a narrower one takes a page less", pages.change(4, 1, 1), 1);
        due("a wider one takes it again", pages.change(4, 2, 1), 2);
    }

    private void setReturnsThePreviousSetting() {
        sentence("set returns the previous setting");
        SplashPages pages = new SplashPages();
        due("set(9)", pages.set(9), 30);
        due("set(60)", pages.set(60), 9);
        due("set(60)", pages.set(60), 60);
        due("set(30)", pages.set(30), 60);
        dueCount(pages, 7, 30);
    }

    private void panelTellsRowAndUnit() {
        sentence("panel: the page (of a spread the first one), the row, the first unit");
        SplashPages pages = told("p61p61p61p51p11s1b21d1");
        duePlace(pages, 3, 0, 3, 0);
        duePlace(pages, 4, 0, 3, 5);
        duePlace(pages, 5, 1, NONE, NONE);
        duePlace(pages, 6, 2, 0, 0);
        duePlace(pages, 7, 4, NONE, NONE);
    }

    private void widthOfASplashOrSpreadDoesNotMatter() {
        sentence("a width (that of a splash or a spread does not matter)");
        for (int width = 1; width <= 6; width++) {
            SplashPages pages = told("p31");
            pages.put(1, 2, width, 2);
            pages.put(2, 3, width, 3);
            duePanel(pages, 1, 2, width, 2);
            duePanel(pages, 2, 3, width, 3);
            duePlace(pages, 1, 1, NONE, NONE);
            duePlace(pages, 2, 2, NONE, NONE);
            for (int row = 0; row < 4; row++) {
                dueRow(pages, 1, row, "bbbbbb");
                dueRow(pages, 2, row, "cccccc");
                dueRow(pages, 3, row, "cccccc");
            }
            dueCount(pages, 5, 21);
        }
    }

    // ---- pages

    private void pageTellsPanelsAndBeats() {
        sentence("page, 0 and 1: panels (a spread is on both), their beats (those of a spread on its first page alone)");
        SplashPages pages = told("d9p14p15s8");
        due("panels of the first page", pages.page(0, 0), 1);
        due("panels of the second page", pages.page(1, 0), 1);
        due("beats of the first page", pages.page(0, 1), 9);
        due("beats of the second page", pages.page(1, 1), 0);
        due("panels of two", pages.page(2, 0), 2);
        due("beats of two", pages.page(2, 1), 9);
        due("panels of a splash", pages.page(3, 0), 1);
        due("beats of a splash", pages.page(3, 1), 8);
        due("panels of a page behind all", pages.page(4, 0), 0);
        due("beats of a page behind all", pages.page(4, 1), 0);
    }

    private void pageTellsEmptyUnits() {
        sentence("page, 2: units that stay empty (0 for a splash or a spread, 24 for one on which nothing is set)");
        due("a splash", told("s1").page(0, 2), 0);
        due("a spread", told("d1").page(0, 2), 0);
        due("a spread's second page", told("d1").page(1, 2), 0);
        due("left blank", told("s1d1").page(1, 2), 24);
        due("behind all", told("s1").page(1, 2), 24);
        due("one unit", told("p11").page(0, 2), 23);
        due("all units", told("p61p61p61p61").page(0, 2), 0);
        due("units ahead of a bleeding one", told("s1p11b21").page(1, 2), 21);
        due("all but one", told("p61p61p61p51").page(0, 2), 1);
    }

    private void pageTellsItsFirstPanel() {
        sentence("page, 3: its first panel, NONE without one");
        SplashPages pages = told("p11p11d1b11p11s1");
        int[] firsts = {0, NONE, 2, 2, 3, 5, NONE, NONE, NONE, NONE, NONE, NONE, NONE, NONE, NONE, NONE};
        for (int page = 0; page < 16; page++) {
            due("page(" + page + ", 3)", pages.page(page, 3), firsts[page]);
        }
        pages.take(0);
        due("behind a take", pages.page(2, 3), 1);
        pages.take(0);
        due("behind another", pages.page(0, 3), 0);
        due("and page 2", pages.page(2, 3), 1);
    }

    private void pageTellsIfItIsLeftBlank() {
        sentence("page, 4: 1 if it is left blank and a page behind it is not, otherwise 0");
        SplashPages pages = told("s1d1s1d1p11");
        int[] blank = {0, 1, 0, 0, 0, 1, 0, 0, 0, 0, 0, 0, 0, 0, 0, 0};
        for (int page = 0; page < 16; page++) {
            due("page(" + page + ", 4)", pages.page(page, 4), blank[page]);
        }
        due("13, with a spread behind it", told(splashes(13) + "d1").page(13, 4), 1);
        due("15, with a spread left out", told(splashes(15) + "d1").page(15, 4), 0);
        due("14, behind all", told(splashes(13) + "p11").page(14, 4), 0);
        due("0 of a new object", new SplashPages().page(0, 4), 0);
    }

    private void pageTellsPanelsThatBleed() {
        sentence("page, 5: panels that bleed on it");
        SplashPages pages = told("b11p11b11b11b11b11s1d1");
        due("four of five", pages.page(0, 5), 4);
        due("one on the next page", pages.page(1, 5), 1);
        due("a splash", pages.page(2, 5), 0);
        due("left blank", pages.page(3, 5), 0);
        due("a spread", pages.page(4, 5), 0);
        pages.take(5);
        due("none behind a take", pages.page(1, 5), 0);
        pages.undo();
        due("one behind an undo", pages.page(1, 5), 1);
    }

    private void lastPageTellsTheSame() {
        sentence("page 15");
        duePage(told(splashes(15) + "s7"), 15, 1, 7, 0, 15, 0, 0);
        duePage(told(splashes(14) + "d7"), 14, 1, 7, 0, 14, 0, 0);
        duePage(told(splashes(14) + "d7"), 15, 1, 0, 0, 14, 0, 0);
        duePage(told(splashes(15) + "b24p13"), 15, 2, 7, 21, 15, 0, 1);
        duePage(told(splashes(15)), 15, 0, 0, 24, NONE, 0, 0);
    }

    private void atTellsAllUnitsOfASpread() {
        sentence("at: a splash or a spread at all units of its pages; NONE if the unit is empty");
        SplashPages pages = told(splashes(13) + "d1");
        for (int row = 0; row < 4; row++) {
            dueRow(pages, 12, row, "mmmmmm");
            dueRow(pages, 13, row, "......");
            dueRow(pages, 14, row, "nnnnnn");
            dueRow(pages, 15, row, "nnnnnn");
        }
        SplashPages gap = told("s1p11b21p11");
        dueRows(gap, 1, "b...cc", "d.....", "......", "......");
        dueRows(new SplashPages(), 0, "......", "......", "......", "......");
        dueRows(new SplashPages(), 15, "......", "......", "......", "......");
    }

    // ---- counts

    private void pagesUsedAndBlank() {
        sentence("count, 1 and 2: pages used; of these, blank ones");
        String[] texts = {"p11", "d1", "s1d1", "s1d1s1d1", splashes(16), splashes(17), splashes(15) + "d1",
            splashes(13) + "d1", "s1d1s1d1s1d1s1d1"};
        int[] used = {1, 2, 4, 8, 16, 16, 15, 16, 16};
        int[] blank = {0, 0, 1, 2, 0, 0, 0, 1, 4};
        int[] leftOut = {0, 0, 0, 0, 0, 1, 1, 0, 0};
        for (int i = 0; i < texts.length; i++) {
            SplashPages pages = told(texts[i]);
            due(texts[i] + ": pages used", pages.count(1), used[i]);
            due(texts[i] + ": blank ones", pages.count(2), blank[i]);
            due(texts[i] + ": left out", pages.count(3), leftOut[i]);
        }
    }

    private void greatestBeats() {
        sentence("count, 4: the greatest beats of a page");
        dueCount(new SplashPages(), 4, 0);
        dueCount(told("p11"), 4, 1);
        dueCount(told("d9"), 4, 9);
        dueCount(told("p19p19p19p13"), 4, 30);
        dueCount(told("s1p19p19p19p13"), 4, 30);
        dueCount(told(splashes(15) + "s2"), 4, 2);
        // Those of panels that are left out are on no page.
        dueCount(told(splashes(16) + "s9"), 4, 1);
    }

    private void emptyUnitsOfAll() {
        sentence("count, 5: units that stay empty on pages that are used and not blank");
        dueCount(new SplashPages(), 5, 0);
        dueCount(told("p11"), 5, 23);
        dueCount(told("s1d1"), 5, 0);
        dueCount(told("p11d1"), 5, 23);
        dueCount(told("p11d1p21"), 5, 45);
        dueCount(told(splashes(15) + "p11s1"), 5, 23);
        SplashPages most = new SplashPages();
        most.set(9);
        for (int i = 0; i < 24; i++) {
            most.put(i, 0, 1, 9);
        }
        dueCount(most, 5, 16 * 23);
    }

    private void facingPages() {
        sentence("count, 6: the greatest difference of beats of two facing pages of which at least one is used");
        dueCount(new SplashPages(), 6, 0);
        dueCount(told("s9s9"), 6, 0);
        dueCount(told("s1s9"), 6, 8);
        dueCount(told("s9s1"), 6, 8);
        // The pages 1 and 2 do not face each other.
        dueCount(told("s1s1s9s9"), 6, 0);
        dueCount(told("s1s9s9s1"), 6, 8);
        dueCount(told("s9s9s3"), 6, 3);
        dueCount(told("d7"), 6, 7);
        dueCount(told("s3s3s4d1"), 6, 4);
        dueCount(told(splashes(14) + "s1s9"), 6, 8);
        dueCount(told(splashes(14) + "s9s1"), 6, 8);
        dueCount(told(splashes(14) + "s9"), 6, 9);
        dueCount(told("p19p19p19p13"), 6, 30);
        SplashPages sixty = told("p19p19p19p19p19p19p16");
        sixty.set(60);
        dueCount(sixty, 6, 60);
    }

    // ---- what would be

    private void dueExchange(SplashPages pages, int panel, int used, int empty) {
        due("ifExchanged(" + panel + ", 0)", pages.ifExchanged(panel, 0), used);
        due("ifExchanged(" + panel + ", 1)", pages.ifExchanged(panel, 1), empty);
    }

    private void exchangeOfTheFirstAndTheLastTwo() {
        sentence("ifExchanged: it and the next one are exchanged");
        SplashPages pages = told("p11d1p21d1");
        // The order is p d . . with blank pages 1 and 5: d p p d, p p d d and p d d p follow.
        dueCount(pages, 1, 8);
        dueCount(pages, 5, 23 + 22);
        dueExchange(pages, 0, 6, 21);
        dueExchange(pages, 1, 6, 21);
        dueExchange(pages, 2, 7, 23 + 22);
        SplashPages full = new SplashPages();
        for (int i = 0; i < 23; i++) {
            full.put(i, 0, 1, 1);
        }
        full.put(23, 3, 6, 1);
        dueCount(full, 5, 1);
        dueExchange(full, 0, 4, 1);
        dueExchange(full, 22, 5, 2 + 23);
    }

    private void exchangeOfKindsWidthsAndBeats() {
        sentence("ifExchanged: kind, width and beats go with the panel");
        SplashPages beats = told("p15p19p14");
        beats.set(9);
        dueCount(beats, 1, 3);
        dueExchange(beats, 0, 2, 45);
        dueExchange(beats, 1, 2, 45);
        SplashPages widths = told("p41p41p21p21p61p61");
        dueCount(widths, 1, 2);
        dueExchange(widths, 1, 1, 0);
        dueExchange(widths, 0, 2, 24);
        SplashPages kinds = told("p11b51p61p61p61");
        dueCount(kinds, 1, 2);
        dueExchange(kinds, 0, 1, 0);
        dueExchange(kinds, 3, 2, 24);
    }

    private void exchangeWithOneLeftOut() {
        sentence("ifExchanged with panels that are left out");
        SplashPages pages = told(splashes(15) + "d1s1p11");
        dueCount(pages, 1, 15);
        dueExchange(pages, 14, 16, 0);
        dueExchange(pages, 15, 16, 0);
        dueExchange(pages, 16, 15, 0);
    }

    private void leastSettingAtItsEnds() {
        sentence("leastSetting: 9 to 60; at most that of now");
        SplashPages pages = new SplashPages();
        due("without panels", pages.leastSetting(), 9);
        pages.set(60);
        due("without panels at 60", pages.leastSetting(), 9);
        pages.set(9);
        due("without panels at 9", pages.leastSetting(), 9);
        SplashPages sixty = told("p19p19p19p19p19p19p16");
        sixty.set(60);
        due("60 beats at 60", sixty.leastSetting(), 60);
        sixty.set(59);
        due("60 beats on two pages at 59", sixty.leastSetting(), 33);
        sixty.set(9);
        due("at 9", sixty.leastSetting(), 9);
        SplashPages ten = told("p15p15");
        due("10 beats", ten.leastSetting(), 10);
        SplashPages nine = told("p15p14");
        due("9 beats", nine.leastSetting(), 9);
        SplashPages splash = told("s9d9");
        due("a splash and a spread bear any", splash.leastSetting(), 9);
    }

    private void leastSettingLeavesOutNoMore() {
        sentence("leastSetting: no more pages are used, and no more panels left out than now");
        // Below 12 the second panel takes a page more, and the spread is left out: a page less is used.
        SplashPages pages = told("p16p16" + splashes(13) + "d1");
        dueCount(pages, 1, 16);
        due("less pages, more left out", pages.leastSetting(), 12);
        pages.set(11);
        dueCount(pages, 1, 15);
        dueCount(pages, 3, 1);
        due("as it is now", pages.leastSetting(), 9);
        SplashPages used = told("p16p16");
        due("more pages, as many left out", used.leastSetting(), 12);
        // All 16 pages are used anyhow, but more panels are left out.
        SplashPages out = told("p16p16" + splashes(16));
        dueCount(out, 1, 16);
        dueCount(out, 3, 1);
        due("as many pages, more left out", out.leastSetting(), 12);
    }

    private void bestWidthByPanelsLeftOutFirst() {
        sentence("bestWidth: count(3), then count(1), then count(5) is least");
        // Wider than 3 it goes to the page 14, and the spread is left out: less pages are used then.
        SplashPages spread = told(splashes(13) + "p61p61p61p31p61d1");
        dueCount(spread, 1, 15);
        dueCount(spread, 3, 1);
        due("left out ahead of pages", spread.bestWidth(17), 3);
        // Wider than 3 it fills the page 14, and the last panel, alone on its page, is left out.
        SplashPages last = told(splashes(13) + "p61p61p61p31p61s1p11");
        dueCount(last, 3, 1);
        dueCount(last, 5, 3 + 18);
        due("left out ahead of empty units", last.bestWidth(17), 3);
        SplashPages pages = told("p61p61p61p51p61");
        due("pages ahead of empty units", pages.bestWidth(4), 1);
        due("the widest of those with as many pages", told("p61p61p61p11").bestWidth(3), 6);
        due("as wide as the row has units left", told("p61p61p61p31p11").bestWidth(4), 3);
        due("of a bleeding one", told("s1p61p61p61p31b11").bestWidth(5), 3);
    }

    private void bestWidthOfSeveralTheLeast() {
        sentence("bestWidth: of several the least width; 1 to 6");
        SplashPages whole = new SplashPages();
        whole.put(0, 2, 5, 1);
        whole.put(1, 3, 4, 1);
        due("a splash", whole.bestWidth(0), 1);
        due("a spread", whole.bestWidth(1), 1);
        SplashPages out = told(splashes(16) + "p31b61");
        due("one that is left out", out.bestWidth(16), 1);
        due("one behind it", out.bestWidth(17), 1);
        SplashPages last = told(splashes(15) + "p61p61p61p41p61");
        dueCount(last, 3, 1);
        due("one that is left out as it is", last.bestWidth(19), 2);
        due("alone", told("p11").bestWidth(0), 6);
    }

    private void fullnessWithoutAnyAndFull() {
        sentence("fullness: units that are not empty, divided by all units of these pages; 1.0 without any");
        dueShare("a new object", new SplashPages().fullness(), 1.0);
        SplashPages pages = told("p11");
        dueShare("one unit", pages.fullness(), 1.0 / 24.0);
        pages.take(0);
        dueShare("without any again", pages.fullness(), 1.0);
        dueShare("all but one unit", told("p61p61p61p51").fullness(), 23.0 / 24.0);
        dueShare("all units", told("p61p61p61p61").fullness(), 1.0);
        dueShare("a blank page does not count", told("s1d1").fullness(), 1.0);
        dueShare("with a blank page", told("p11d1").fullness(), 49.0 / 72.0);
        dueShare("16 pages", told(splashes(16)).fullness(), 1.0);
        dueShare("a third page", told("s1s1p11").fullness(), 49.0 / 72.0);
        dueShare("16 pages but 23 units", told(splashes(15) + "p11s1").fullness(), 361.0 / 384.0);
    }

    // ---- the hash

    private static long hashOf(List<Long> values) {
        BigInteger hash = BigInteger.valueOf(3433);
        for (long value : values) {
            hash = hash.multiply(BigInteger.valueOf(31)).add(BigInteger.valueOf(value));
        }
        return hash.longValue();
    }

    private static void addAll(List<Long> values, long... more) {
        for (long value : more) {
            values.add(value);
        }
    }

    private void digestOfANewObject() {
        sentence("digest of a new object, in long arithmetic with overflow");
        List<Long> values = new ArrayList<>();
        addAll(values, 0, 0, 0, 0, 0, 0, 0, 30, 0);
        for (int page = 0; page < 16; page++) {
            addAll(values, 0, 0, 24, -1, 0, 0);
            for (int unit = 0; unit < 24; unit++) {
                values.add(-1L);
            }
        }
        addAll(values, 9, 0x3FF0000000000000L, 0);
        due("digest()", new SplashPages().digest(), hashOf(values));
    }

    private static List<Long> valuesOf(SplashPages pages, String buffer) {
        List<Long> values = new ArrayList<>();
        for (int what = 0; what <= 8; what++) {
            values.add((long) pages.count(what));
        }
        int size = pages.count(0);
        for (int panel = 0; panel < size; panel++) {
            for (int what = 0; what <= 5; what++) {
                values.add((long) pages.panel(panel, what));
            }
            values.add((long) pages.bestWidth(panel));
            if (panel + 1 < size) {
                addAll(values, pages.ifExchanged(panel, 0), pages.ifExchanged(panel, 1));
            }
        }
        for (int page = 0; page < 16; page++) {
            for (int what = 0; what <= 5; what++) {
                values.add((long) pages.page(page, what));
            }
            for (int row = 0; row < 4; row++) {
                for (int unit = 0; unit < 6; unit++) {
                    values.add((long) pages.at(page, row, unit));
                }
            }
        }
        addAll(values, pages.leastSetting(), Double.doubleToLongBits(pages.fullness()), buffer.length());
        buffer.chars().forEach(code -> values.add((long) code));
        return values;
    }

    private void dueDigest(SplashPages pages, String buffer) {
        write(pages, buffer);
        due("digest()", pages.digest(), hashOf(valuesOf(pages, buffer)));
    }

    private void digestOfManyObjects() {
        sentence("digest: the values, in order");
        dueDigest(told("p11"), "");
        dueDigest(told("p34b52s7p12d8b21b32p11"), "b6x");
        dueDigest(withPlainPanels(24), "p".repeat(60));
        dueDigest(told("d1".repeat(24)), "~");
        dueDigest(told(splashes(15) + "d1b24s3p35"), "!");
        for (int units = 1; units <= 24; units++) {
            SplashPages pages = withPlainPanels(units);
            pages.set(9 + units);
            dueDigest(pages, "s1".repeat(units));
        }
    }

    private void digestTellsEachCharacter() {
        sentence("digest: the length of the buffer and each of its character codes");
        for (int length = 0; length <= 60; length++) {
            dueDigest(new SplashPages(), "!~pbsd190".repeat(7).substring(0, length));
        }
        SplashPages pages = told("p11");
        long before = pages.digest();
        pages.append('s');
        due("another one behind append", pages.digest() == before ? 0 : 1, 1);
        pages.clearBuffer();
        due("the same one behind clearBuffer", pages.digest(), before);
    }
}
