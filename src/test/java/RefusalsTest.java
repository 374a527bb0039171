import java.util.LinkedHashMap;
import java.util.Map;

/** The least and the greatest argument that is taken, what is refused beside them, and that it changes nothing. */
public final class RefusalsTest extends Checks {
    private interface Maker {
        SplashPages make();
    }

    private interface CallWith {
        int run(SplashPages pages, int value);
    }

    public static void main(String[] args) {
        RefusalsTest test = new RefusalsTest();
        test.putTakesAPlaceFrom0ToTheNumberOfPanels();
        test.putTakesKindsWidthsAndBeats();
        test.putRefusesA25thPanel();
        test.takeNeedsSuchAPanel();
        test.changeNeedsSuchAPanel();
        test.changeTakesWidthsAndBeats();
        test.setTakes9To60();
        test.appendTakes33To126();
        test.appendRefusesA61stCharacter();
        test.storyNeedsAWholeText();
        test.undoNeedsASavedState();
        test.panelNeedsSuchAPanel();
        test.pageNeedsSuchAPage();
        test.atNeedsSuchAUnit();
        test.countTakes0To8();
        test.ifExchangedNeedsTwoNeighbours();
        test.bestWidthNeedsSuchAPanel();
        test.theExceptionNamedFirstIsThrown();
        test.refusedCallsChangeNothing();
        test.looksChangeNothing();
        test.end();
    }

    /** Each value is tried on an object of its own; the ones far off would wrap around in a sum. */
    private void dueBounds(String what, Maker maker, int least, int most,
            Class<? extends RuntimeException> refusal, CallWith call) {
        for (int value : new int[] {least, most}) {
            SplashPages pages = maker.make();
            dueText(what + " " + value, thrownBy(() -> call.run(pages, value)), "nothing");
        }
        int[] refused = {least - 1, most + 1, Integer.MIN_VALUE, Integer.MIN_VALUE + 1, Integer.MAX_VALUE,
            Integer.MAX_VALUE - 1, least - 256, most + 256, least - 65536, most + 65536};
        for (int value : refused) {
            SplashPages pages = maker.make();
            dueThrow(what + " " + value, pages, refusal, () -> call.run(pages, value));
        }
    }

    private static SplashPages four() {
        return told("p34b52s7d8");
    }

    // ---- panels

    private void putTakesAPlaceFrom0ToTheNumberOfPanels() {
        sentence("put, at: its number then, 0 to the number of panels");
        dueBounds("at of 0 panels", SplashPages::new, 0, 0, INDEX, (pages, at) -> pages.put(at, 0, 1, 1));
        dueBounds("at of 4 panels", RefusalsTest::four, 0, 4, INDEX, (pages, at) -> pages.put(at, 0, 1, 1));
        dueBounds("at of 23 panels", () -> withPlainPanels(23), 0, 23, INDEX, (pages, at) -> pages.put(at, 0, 1, 1));
    }

    private void putTakesKindsWidthsAndBeats() {
        sentence("put, kind: 0 to 3");
        dueBounds("kind", RefusalsTest::four, 0, 3, ARGUMENT, (pages, kind) -> pages.put(4, kind, 1, 1));
        for (int kind = 0; kind <= 3; kind++) {
            int its = kind;
            sentence("put, width: 1 to 6, of the kind " + kind);
            dueBounds("width", RefusalsTest::four, 1, 6, ARGUMENT, (pages, width) -> pages.put(4, its, width, 1));
            sentence("put, beats: 1 to 9, of the kind " + kind);
            dueBounds("beats", RefusalsTest::four, 1, 9, ARGUMENT, (pages, beats) -> pages.put(4, its, 1, beats));
        }
    }

    private void putRefusesA25thPanel() {
        sentence("put throws IllegalStateException if there are 24 panels");
        SplashPages pages = withPlainPanels(23);
        due("the 24th", pages.put(23, 0, 1, 1), 24);
        for (int at = 0; at <= 24; at++) {
            int its = at;
            dueThrow("a 25th at " + at, pages, STATE, () -> pages.put(its, its % 4, 6, 9));
        }
        pages.take(12);
        due("one taken out makes room for one", pages.put(0, 3, 6, 9), 24);
        dueThrow("and for no other", pages, STATE, () -> pages.put(0, 0, 1, 1));
        pages.undo();
        due("as does an undo", pages.put(23, 0, 1, 1), 24);
    }

    private void takeNeedsSuchAPanel() {
        sentence("take throws IndexOutOfBoundsException if there is no such panel");
        SplashPages empty = new SplashPages();
        dueThrow("0 of 0 panels", empty, INDEX, () -> empty.take(0));
        dueBounds("of 1 panel", () -> told("p11"), 0, 0, INDEX, SplashPages::take);
        dueBounds("of 4 panels", RefusalsTest::four, 0, 3, INDEX, SplashPages::take);
        dueBounds("of 24 panels", () -> withPlainPanels(24), 0, 23, INDEX, SplashPages::take);
        SplashPages one = told("p11");
        one.take(0);
        dueThrow("of the one that was taken out", one, INDEX, () -> one.take(0));
    }

    private void changeNeedsSuchAPanel() {
        sentence("change throws IndexOutOfBoundsException if there is no such panel");
        SplashPages empty = new SplashPages();
        dueThrow("0 of 0 panels", empty, INDEX, () -> empty.change(0, 1, 1));
        dueBounds("of 4 panels", RefusalsTest::four, 0, 3, INDEX, (pages, panel) -> pages.change(panel, 1, 1));
        dueBounds("of 24 panels", () -> withPlainPanels(24), 0, 23, INDEX,
                (pages, panel) -> pages.change(panel, 6, 9));
    }

    private void changeTakesWidthsAndBeats() {
        for (int panel = 0; panel <= 3; panel++) {
            int its = panel;
            sentence("change, width: 1 to 6, of the kind " + panel);
            dueBounds("width", RefusalsTest::four, 1, 6, ARGUMENT, (pages, width) -> pages.change(its, width, 1));
            sentence("change, beats: 1 to 9, of the kind " + panel);
            dueBounds("beats", RefusalsTest::four, 1, 9, ARGUMENT, (pages, beats) -> pages.change(its, 1, beats));
        }
    }

    private void setTakes9To60() {
        sentence("set, beats: 9 to 60");
        dueBounds("of a new object", SplashPages::new, 9, 60, ARGUMENT, SplashPages::set);
        dueBounds("of 24 panels", () -> withPlainPanels(24), 9, 60, ARGUMENT, SplashPages::set);
    }

    // ---- texts

    private static SplashPages withCharacters(int number) {
        SplashPages pages = new SplashPages();
        write(pages, "s".repeat(number));
        return pages;
    }

    private void appendTakes33To126() {
        sentence("append, code: the character code, 33 to 126");
        dueBounds("to an empty buffer", SplashPages::new, 33, 126, ARGUMENT, SplashPages::append);
        dueBounds("as the 60th", () -> withCharacters(59), 33, 126, ARGUMENT, SplashPages::append);
        for (int code = 33; code <= 126; code++) {
            SplashPages pages = withCharacters(7);
            due("append(" + code + ")", pages.append(code), 8);
        }
    }

    private void appendRefusesA61stCharacter() {
        sentence("append throws IllegalStateException if the buffer has 60 characters");
        SplashPages pages = withCharacters(59);
        due("the 60th", pages.append('p'), 60);
        for (int code = 33; code <= 126; code++) {
            int its = code;
            dueText("a 61st", thrownBy(() -> pages.append(its)), STATE.getName());
        }
        due("the length is 60 yet", pages.clearBuffer(), 60);
        due("a first one behind them", pages.append('p'), 1);
    }

    private void storyNeedsAWholeText() {
        sentence("story throws IllegalArgumentException if the buffer is not a complete story as a text");
        String[] wrong = {"", "p", "b", "s", "d", "p1", "b6", "p0", "p01", "p10", "p71", "b70", "s0", "d0", "s11",
            "p11p", "p11b1", "s1s", "p11p1", "x", "x11", "p11x", "xs1", "s1,s1", "S1", "1", "11", "ps1", "p1s1",
            "s1".repeat(29) + "p", "s1".repeat(29) + "ss", "p11".repeat(19) + "p1", "x" + "s1".repeat(29) + "s"};
        for (String text : wrong) {
            SplashPages pages = told("p11");
            SplashPages full = withPlainPanels(24);
            write(pages, text);
            write(full, text);
            dueThrow(text, pages, ARGUMENT, pages::story);
            dueThrow(text + ", without room", full, ARGUMENT, full::story);
            due(text + " stays in the buffer", pages.clearBuffer(), text.length());
            dueCount(pages, 8, 1);
        }
    }

    private void undoNeedsASavedState() {
        sentence("undo throws IllegalStateException if there is none");
        SplashPages pages = new SplashPages();
        dueThrow("of a new object", pages, STATE, pages::undo);
        pages.set(30);
        due("of one", pages.undo(), 0);
        dueThrow("behind the last", pages, STATE, pages::undo);
        for (int i = 0; i < 9; i++) {
            pages.set(20 + i);
        }
        for (int left = 5; left >= 0; left--) {
            due("of six", pages.undo(), left);
        }
        dueThrow("behind six", pages, STATE, pages::undo);
    }

    // ---- looks and what would be

    private void panelNeedsSuchAPanel() {
        sentence("panel throws IndexOutOfBoundsException if there is no such panel");
        SplashPages empty = new SplashPages();
        dueThrow("0 of 0 panels", empty, INDEX, () -> empty.panel(0, 0));
        for (int what = 0; what <= 5; what++) {
            int its = what;
            dueBounds("of 4 panels", RefusalsTest::four, 0, 3, INDEX, (pages, panel) -> pages.panel(panel, its));
            dueBounds("of 24 panels", () -> withPlainPanels(24), 0, 23, INDEX,
                    (pages, panel) -> pages.panel(panel, its));
        }
        sentence("panel throws IllegalArgumentException if what is not 0 to 5");
        for (int panel = 0; panel <= 3; panel++) {
            int its = panel;
            dueBounds("what", RefusalsTest::four, 0, 5, ARGUMENT, (pages, what) -> pages.panel(its, what));
        }
    }

    private void pageNeedsSuchAPage() {
        for (int what = 0; what <= 5; what++) {
            int its = what;
            sentence("page throws IndexOutOfBoundsException if there is no such page");
            dueBounds("of a new object", SplashPages::new, 0, 15, INDEX, (pages, page) -> pages.page(page, its));
            dueBounds("of 16 pages used", () -> told(splashes(16)), 0, 15, INDEX,
                    (pages, page) -> pages.page(page, its));
        }
        for (int page = 0; page <= 15; page += 5) {
            int its = page;
            sentence("page throws IllegalArgumentException if what is not 0 to 5");
            dueBounds("what of page " + page, SplashPages::new, 0, 5, ARGUMENT, (pages, what) -> pages.page(its, what));
            dueBounds("what of page " + page, () -> told(splashes(16)), 0, 5, ARGUMENT,
                    (pages, what) -> pages.page(its, what));
        }
    }

    private void atNeedsSuchAUnit() {
        sentence("at throws IndexOutOfBoundsException if there is no such page, row or unit");
        Maker[] makers = {SplashPages::new, RefusalsTest::four, () -> told(splashes(16))};
        for (Maker maker : makers) {
            dueBounds("page, least of the others", maker, 0, 15, INDEX, (pages, page) -> pages.at(page, 0, 0));
            dueBounds("page, greatest of the others", maker, 0, 15, INDEX, (pages, page) -> pages.at(page, 3, 5));
            dueBounds("row, least of the others", maker, 0, 3, INDEX, (pages, row) -> pages.at(0, row, 0));
            dueBounds("row, greatest of the others", maker, 0, 3, INDEX, (pages, row) -> pages.at(15, row, 5));
            dueBounds("unit, least of the others", maker, 0, 5, INDEX, (pages, unit) -> pages.at(0, 0, unit));
            dueBounds("unit, greatest of the others", maker, 0, 5, INDEX, (pages, unit) -> pages.at(15, 3, unit));
        }
    }

    private void countTakes0To8() {
        sentence("count throws IllegalArgumentException if what is not 0 to 8");
        dueBounds("of a new object", SplashPages::new, 0, 8, ARGUMENT, SplashPages::count);
        dueBounds("of 24 panels", () -> withPlainPanels(24), 0, 8, ARGUMENT, SplashPages::count);
    }

    private void ifExchangedNeedsTwoNeighbours() {
        sentence("ifExchanged throws IndexOutOfBoundsException if there is no such panel, or none behind it");
        SplashPages empty = new SplashPages();
        dueThrow("0 of 0 panels", empty, INDEX, () -> empty.ifExchanged(0, 0));
        SplashPages one = told("p11");
        dueThrow("0 of 1 panel", one, INDEX, () -> one.ifExchanged(0, 0));
        dueThrow("-1 of 1 panel", one, INDEX, () -> one.ifExchanged(-1, 1));
        for (int what = 0; what <= 1; what++) {
            int its = what;
            dueBounds("of 2 panels", () -> told("p11s1"), 0, 0, INDEX,
                    (pages, panel) -> pages.ifExchanged(panel, its));
            dueBounds("of 4 panels", RefusalsTest::four, 0, 2, INDEX, (pages, panel) -> pages.ifExchanged(panel, its));
            dueBounds("of 24 panels", () -> withPlainPanels(24), 0, 22, INDEX,
                    (pages, panel) -> pages.ifExchanged(panel, its));
        }
        sentence("ifExchanged throws IllegalArgumentException if what is not 0 or 1");
        dueBounds("what of the first", RefusalsTest::four, 0, 1, ARGUMENT, (pages, what) -> pages.ifExchanged(0, what));
        dueBounds("what of the last", RefusalsTest::four, 0, 1, ARGUMENT, (pages, what) -> pages.ifExchanged(2, what));
    }

    private void bestWidthNeedsSuchAPanel() {
        sentence("bestWidth throws IndexOutOfBoundsException if there is no such panel");
        SplashPages empty = new SplashPages();
        dueThrow("0 of 0 panels", empty, INDEX, () -> empty.bestWidth(0));
        dueBounds("of 1 panel", () -> told("p11"), 0, 0, INDEX, SplashPages::bestWidth);
        dueBounds("of 4 panels", RefusalsTest::four, 0, 3, INDEX, SplashPages::bestWidth);
        dueBounds("of 24 panels", () -> withPlainPanels(24), 0, 23, INDEX, SplashPages::bestWidth);
    }

    // ---- all calls

    private void theExceptionNamedFirstIsThrown() {
        sentence("if several exceptions apply, the one that is named first in the throws clause is thrown");
        SplashPages full = withPlainPanels(24);
        write(full, "s".repeat(60));
        dueThrow("put: no such place, and all else", full, INDEX, () -> full.put(25, 4, 7, 10));
        dueThrow("put: no such place, and 24 panels", full, INDEX, () -> full.put(25, 0, 1, 1));
        dueThrow("put: a place below 0, and 24 panels", full, INDEX, () -> full.put(-1, 0, 1, 1));
        dueThrow("put: a wrong kind, and 24 panels", full, ARGUMENT, () -> full.put(24, 4, 1, 1));
        dueThrow("put: a kind below 0, and 24 panels", full, ARGUMENT, () -> full.put(0, -1, 1, 1));
        dueThrow("put: a wrong width, and 24 panels", full, ARGUMENT, () -> full.put(24, 0, 7, 1));
        dueThrow("put: a width of 0, and 24 panels", full, ARGUMENT, () -> full.put(0, 3, 0, 1));
        dueThrow("put: wrong beats, and 24 panels", full, ARGUMENT, () -> full.put(24, 0, 1, 10));
        dueThrow("put: beats of 0, and 24 panels", full, ARGUMENT, () -> full.put(0, 2, 1, 0));
        dueThrow("append: a wrong code, and 60 characters", full, ARGUMENT, () -> full.append(127));
        dueThrow("append: a code below 33, and 60 characters", full, ARGUMENT, () -> full.append(32));
        SplashPages pages = four();
        dueThrow("put: no such place, and a wrong kind", pages, INDEX, () -> pages.put(5, 4, 1, 1));
        dueThrow("put: no such place, and a wrong width", pages, INDEX, () -> pages.put(-1, 0, 0, 1));
        dueThrow("put: no such place, and wrong beats", pages, INDEX, () -> pages.put(5, 0, 1, 10));
        dueThrow("change: no such panel, and a wrong width", pages, INDEX, () -> pages.change(4, 7, 1));
        dueThrow("change: no such panel, and wrong beats", pages, INDEX, () -> pages.change(-1, 1, 0));
        dueThrow("panel: no such panel, and a wrong what", pages, INDEX, () -> pages.panel(4, 6));
        dueThrow("panel: a panel below 0, and a wrong what", pages, INDEX, () -> pages.panel(-1, -1));
        dueThrow("page: no such page, and a wrong what", pages, INDEX, () -> pages.page(16, 6));
        dueThrow("page: a page below 0, and a wrong what", pages, INDEX, () -> pages.page(-1, -1));
        dueThrow("ifExchanged: none behind it, and a wrong what", pages, INDEX, () -> pages.ifExchanged(3, 2));
        dueThrow("ifExchanged: no such panel, and a wrong what", pages, INDEX, () -> pages.ifExchanged(-1, -1));
    }

    /** Objects that are full, empty and between, each made the same way as often as it is asked for. */
    private static Map<String, Maker> makers() {
        Map<String, Maker> makers = new LinkedHashMap<>();
        makers.put("a new object", SplashPages::new);
        makers.put("no saved state left", () -> {
            SplashPages pages = told("p11s1");
            pages.undo();
            write(pages, "b");
            return pages;
        });
        makers.put("some of all", () -> {
            SplashPages pages = told("b34s5p11d9");
            pages.set(12);
            pages.change(0, 2, 9);
            write(pages, "p1x");
            return pages;
        });
        makers.put("24 panels, 60 characters, 6 saved states", () -> {
            SplashPages pages = new SplashPages();
            for (int i = 0; i < 24; i++) {
                pages.put(i / 2, i % 4, 1 + i % 6, 1 + i % 9);
            }
            write(pages, "p".repeat(60));
            return pages;
        });
        return makers;
    }

    /** The digest does not tell what is in the saved states, so all of them are restored and compared. */
    private void dueAlike(String what, SplashPages got, SplashPages want) {
        due(what + ": digest", got.digest(), want.digest());
        int states = want.count(8);
        due(what + ": saved states", got.count(8), states);
        for (int left = states - 1; left >= 0; left--) {
            due(what + ": undo", got.undo(), left);
            want.undo();
            due(what + ": digest with " + left + " saved states left", got.digest(), want.digest());
        }
        due(what + ": length of the buffer", got.clearBuffer(), want.clearBuffer());
    }

    private void dueRefused(String what, Call call) {
        due(what + " is refused", thrownBy(call).equals("nothing") ? 0 : 1, 1);
    }

    private void refusedCallsChangeNothing() {
        sentence("a call that throws an exception changes nothing");
        for (Map.Entry<String, Maker> entry : makers().entrySet()) {
            SplashPages pages = entry.getValue().make();
            refuseChanges(pages);
            refuseLooks(pages);
            dueAlike(entry.getKey(), pages, entry.getValue().make());
        }
    }

    private void refuseChanges(SplashPages pages) {
        int size = pages.count(0);
        dueRefused("put, at -1", () -> pages.put(-1, 0, 1, 1));
        dueRefused("put, at too great", () -> pages.put(size + 1, 0, 1, 1));
        dueRefused("put, kind", () -> pages.put(0, 4, 1, 1));
        dueRefused("put, width", () -> pages.put(0, 0, 7, 1));
        dueRefused("put, beats", () -> pages.put(0, 0, 1, 10));
        dueRefused("take", () -> pages.take(size));
        dueRefused("take -1", () -> pages.take(-1));
        dueRefused("change", () -> pages.change(size, 1, 1));
        dueRefused("change, width", () -> pages.change(0, 0, 1));
        dueRefused("change, beats", () -> pages.change(0, 1, 0));
        dueRefused("set(8)", () -> pages.set(8));
        dueRefused("set(61)", () -> pages.set(61));
        dueRefused("append(32)", () -> pages.append(32));
        dueRefused("append(127)", () -> pages.append(127));
        dueRefused("story", pages::story);
        if (size == 24) {
            dueRefused("put", () -> pages.put(0, 0, 1, 1));
            dueRefused("append", () -> pages.append('p'));
        }
        if (pages.count(8) == 0) {
            dueRefused("undo", pages::undo);
        }
    }

    private void refuseLooks(SplashPages pages) {
        int size = pages.count(0);
        dueRefused("panel", () -> pages.panel(size, 0));
        dueRefused("panel, what", () -> pages.panel(0, 6));
        dueRefused("page", () -> pages.page(16, 0));
        dueRefused("page, what", () -> pages.page(0, 6));
        dueRefused("at", () -> pages.at(16, 0, 0));
        dueRefused("count", () -> pages.count(9));
        dueRefused("ifExchanged", () -> pages.ifExchanged(Math.max(size - 1, 0), 0));
        dueRefused("ifExchanged, what", () -> pages.ifExchanged(0, 2));
        dueRefused("bestWidth", () -> pages.bestWidth(size));
    }

    private void looksChangeNothing() {
        sentence("looks, and what would be: nothing is changed");
        for (Map.Entry<String, Maker> entry : makers().entrySet()) {
            SplashPages pages = entry.getValue().make();
            pages.firstError();
            for (int panel = 0; panel < pages.count(0); panel++) {
                for (int what = 0; what <= 5; what++) {
                    pages.panel(panel, what);
                }
                pages.bestWidth(panel);
                if (panel + 1 < pages.count(0)) {
                    pages.ifExchanged(panel, 0);
                    pages.ifExchanged(panel, 1);
                }
            }
            for (int page = 0; page < 16; page++) {
                pages.page(page, page % 6);
                pages.at(page, page % 4, page % 6);
            }
            for (int what = 0; what <= 8; what++) {
                pages.count(what);
            }
            pages.leastSetting();
            pages.fullness();
            pages.digest();
            dueAlike(entry.getKey(), pages, entry.getValue().make());
        }
    }
}
