/** Each promise of the document with answers reckoned by hand: ordinary, at the edges, and wrong inputs. */
public final class PromisesTest extends Checks {
    public static void main(String[] args) {
        PromisesTest test = new PromisesTest();
        test.promise1NewObject();
        test.promise2Put();
        test.promise2PutBetween();
        test.promise3Take();
        test.promise4Change();
        test.promise5Set();
        test.promise6Append();
        test.promise7ClearBuffer();
        test.promise8FirstError();
        test.promise9Story();
        test.promise9StoryWithoutRoom();
        test.promise10Undo();
        test.promise10UndoLeavesTheBuffer();
        test.promise11Panel();
        test.promise12Page();
        test.promise13At();
        test.promise14Count();
        test.promise15IfExchanged();
        test.promise16LeastSetting();
        test.promise16LeastSettingWithLeftOut();
        test.promise17BestWidth();
        test.promise18Fullness();
        test.promise19Digest();
        test.pouringSplash();
        test.pouringSpread();
        test.pouringBeats();
        test.pouringRows();
        test.pouringBleedsOnTheRight();
        test.pouringBleedsOnTheLeft();
        test.pouringLeavesOut();
        test.end();
    }

    private void dueError(String text, int want) {
        SplashPages pages = new SplashPages();
        write(pages, text);
        due("firstError() of " + text, pages.firstError(), want);
    }

    // ---- promises

    private void promise1NewObject() {
        SplashPages pages = new SplashPages();
        dueCount(pages, 0, 0);
        dueCount(pages, 1, 0);
        dueCount(pages, 2, 0);
        dueCount(pages, 3, 0);
        dueCount(pages, 4, 0);
        dueCount(pages, 5, 0);
        dueCount(pages, 6, 0);
        dueCount(pages, 7, 30);
        dueCount(pages, 8, 0);
        due("clearBuffer()", pages.clearBuffer(), 0);
        due("firstError()", pages.firstError(), 0);
        for (int page = 0; page < 16; page++) {
            duePage(pages, page, 0, 0, 24, NONE, 0, 0);
        }
        due("NONE", NONE, -1);
    }

    private void promise2Put() {
        SplashPages pages = new SplashPages();
        dueThrow("put(1, ..) first", pages, INDEX, () -> pages.put(1, 0, 1, 1));
        dueThrow("put(-1, ..)", pages, INDEX, () -> pages.put(-1, 0, 1, 1));
        dueThrow("put(MIN, ..)", pages, INDEX, () -> pages.put(Integer.MIN_VALUE, 9, 9, 99));
        dueThrow("put(MAX, ..)", pages, INDEX, () -> pages.put(Integer.MAX_VALUE, 9, 9, 99));
        dueThrow("kind -1", pages, ARGUMENT, () -> pages.put(0, -1, 1, 1));
        dueThrow("kind 4", pages, ARGUMENT, () -> pages.put(0, 4, 1, 1));
        dueThrow("width 0", pages, ARGUMENT, () -> pages.put(0, 0, 0, 1));
        dueThrow("width 7", pages, ARGUMENT, () -> pages.put(0, 0, 7, 1));
        dueThrow("width 7 of a splash", pages, ARGUMENT, () -> pages.put(0, 2, 7, 1));
        dueThrow("beats 0", pages, ARGUMENT, () -> pages.put(0, 0, 1, 0));
        dueThrow("beats 10", pages, ARGUMENT, () -> pages.put(0, 0, 1, 10));
        dueCount(pages, 8, 0);
        for (int i = 0; i < 24; i++) {
            due("put", pages.put(i, i % 4, 1 + i % 6, 1 + i % 9), i + 1);
        }
        dueCount(pages, 0, 24);
        dueCount(pages, 8, 6);
        dueThrow("a 25th", pages, STATE, () -> pages.put(24, 0, 1, 1));
        dueThrow("a 25th with a wrong kind", pages, ARGUMENT, () -> pages.put(24, 4, 1, 1));
        dueThrow("a 25th at 25", pages, INDEX, () -> pages.put(25, 4, 1, 1));
    }

    private void promise2PutBetween() {
        SplashPages pages = told("p11p22p33");
        due("put(1, ..)", pages.put(1, 2, 5, 9), 4);
        duePanel(pages, 0, 0, 1, 1);
        duePanel(pages, 1, 2, 5, 9);
        duePanel(pages, 2, 0, 2, 2);
        duePanel(pages, 3, 0, 3, 3);
        due("put(0, ..)", pages.put(0, 1, 6, 8), 5);
        duePanel(pages, 0, 1, 6, 8);
        duePanel(pages, 4, 0, 3, 3);
        duePlace(pages, 1, 0, 1, 0);
        duePlace(pages, 2, 1, NONE, NONE);
        duePlace(pages, 3, 2, 0, 0);
    }

    private void promise3Take() {
        SplashPages pages = told("p11b22s3d4");
        dueThrow("take(4)", pages, INDEX, () -> pages.take(4));
        dueThrow("take(-1)", pages, INDEX, () -> pages.take(-1));
        due("take(1)", pages.take(1), 3);
        duePanel(pages, 0, 0, 1, 1);
        duePanel(pages, 1, 2, 6, 3);
        duePanel(pages, 2, 3, 6, 4);
        due("take(2)", pages.take(2), 2);
        due("take(0)", pages.take(0), 1);
        duePlace(pages, 0, 0, NONE, NONE);
        due("take(0)", pages.take(0), 0);
        dueCount(pages, 1, 0);
        dueCount(pages, 8, 5);
        dueThrow("take(0) without a panel", pages, INDEX, () -> pages.take(0));
        SplashPages full = new SplashPages();
        for (int i = 0; i < 24; i++) {
            full.put(i, 0, 1 + i % 6, 1 + i % 9);
        }
        due("take(0) of 24", full.take(0), 23);
        duePanel(full, 22, 0, 6, 6);
        due("undo of it", full.undo(), 5);
        due("take(23)", full.take(23), 23);
        due("take(0) of 23", full.take(0), 22);
        duePanel(full, 0, 0, 2, 2);
        duePanel(full, 21, 0, 5, 5);
    }

    private void promise4Change() {
        SplashPages pages = told("p39p39p39b11");
        due("to 9 beats: 36 are above 30", pages.change(3, 1, 9), 2);
        duePlace(pages, 3, 1, 0, 5);
        duePanel(pages, 3, 1, 1, 9);
        due("to 3 beats: 30 are not above 30", pages.change(3, 6, 3), 1);
        duePlace(pages, 3, 0, 2, 0);
        dueCount(pages, 8, 3);
        due("no change", pages.change(3, 6, 3), 1);
        dueCount(pages, 8, 4);
        dueThrow("change(4, ..)", pages, INDEX, () -> pages.change(4, 1, 1));
        dueThrow("change(-1, ..)", pages, INDEX, () -> pages.change(-1, 0, 0));
        dueThrow("width 0", pages, ARGUMENT, () -> pages.change(0, 0, 1));
        dueThrow("width 7", pages, ARGUMENT, () -> pages.change(0, 7, 1));
        dueThrow("beats 0", pages, ARGUMENT, () -> pages.change(0, 1, 0));
        dueThrow("beats 10", pages, ARGUMENT, () -> pages.change(0, 1, 10));
        SplashPages splash = told("s1");
        due("a splash", splash.change(0, 2, 9), 1);
        duePanel(splash, 0, 2, 2, 9);
        duePage(splash, 0, 1, 9, 0);
    }

    private void promise5Set() {
        SplashPages pages = told("p15p15p15");
        due("set(9)", pages.set(9), 30);
        dueCount(pages, 1, 3);
        due("set(10)", pages.set(10), 9);
        dueCount(pages, 1, 2);
        due("set(60)", pages.set(60), 10);
        dueCount(pages, 1, 1);
        due("set(60) again", pages.set(60), 60);
        dueCount(pages, 7, 60);
        dueCount(pages, 8, 5);
        dueThrow("set(8)", pages, ARGUMENT, () -> pages.set(8));
        dueThrow("set(61)", pages, ARGUMENT, () -> pages.set(61));
        dueThrow("set(MIN)", pages, ARGUMENT, () -> pages.set(Integer.MIN_VALUE));
    }

    private void promise6Append() {
        SplashPages pages = new SplashPages();
        dueThrow("append(32)", pages, ARGUMENT, () -> pages.append(32));
        dueThrow("append(127)", pages, ARGUMENT, () -> pages.append(127));
        dueThrow("append(-1)", pages, ARGUMENT, () -> pages.append(-1));
        due("append(33)", pages.append(33), 1);
        due("append(126)", pages.append(126), 2);
        for (int length = 3; length <= 60; length++) {
            due("append", pages.append('p'), length);
        }
        dueThrow("a 61st", pages, STATE, () -> pages.append('p'));
        dueThrow("a 61st that is no code", pages, ARGUMENT, () -> pages.append(32));
        dueCount(pages, 8, 0);
    }

    private void promise7ClearBuffer() {
        SplashPages pages = new SplashPages();
        due("empty", pages.clearBuffer(), 0);
        write(pages, "p1x");
        due("three", pages.clearBuffer(), 3);
        due("again", pages.clearBuffer(), 0);
        write(pages, "s1");
        due("what is behind it is read from the start", pages.firstError(), 2);
        dueCount(pages, 8, 0);
        for (int i = 2; i < 60; i++) {
            pages.append('s');
        }
        due("sixty", pages.clearBuffer(), 60);
        due("append behind it", pages.append('d'), 1);
    }

    private void promise8FirstError() {
        dueError("", 0);
        dueError("p", 1);
        dueError("p1", 2);
        dueError("p11", 3);
        dueError("p69b19s9d1", 10);
        dueError("p69b19s9d1b", 11);
        dueError("x", 0);
        dueError("1", 0);
        dueError("P11", 0);
        dueError("p0", 1);
        dueError("p71", 1);
        dueError("p10", 2);
        dueError("b6x", 2);
        dueError("bb", 1);
        dueError("s0", 1);
        dueError("ss", 1);
        dueError("s11", 2);
        dueError("d1,d1", 2);
        dueError("p11q", 3);
        dueError("s1xp11x", 2);
        dueError("a1", 0);
        dueError("c1", 0);
    }

    private void promise9Story() {
        SplashPages pages = new SplashPages();
        for (String wrong : new String[] {"", "p", "p1", "p11b", "p11b2", "s", "s1d", "x", "p11x", "s1,", "p70"}) {
            pages.clearBuffer();
            write(pages, wrong);
            dueThrow("story() of " + wrong, pages, ARGUMENT, pages::story);
        }
        dueCount(pages, 8, 0);
        pages.clearBuffer();
        write(pages, "p34b52s7d8");
        due("story()", pages.story(), 4);
        duePanel(pages, 0, 0, 3, 4);
        duePanel(pages, 1, 1, 5, 2);
        duePanel(pages, 2, 2, 6, 7);
        duePanel(pages, 3, 3, 6, 8);
        due("the buffer behind it", pages.clearBuffer(), 0);
        dueCount(pages, 8, 1);
        write(pages, "p11");
        due("behind the others", pages.story(), 1);
        duePanel(pages, 4, 0, 1, 1);
        dueCount(pages, 8, 2);
    }

    private void promise9StoryWithoutRoom() {
        SplashPages pages = new SplashPages();
        for (int i = 0; i < 22; i++) {
            pages.put(i, 0, 1, 1);
        }
        write(pages, "p25s3b44");
        due("two come", pages.story(), 2);
        dueCount(pages, 0, 24);
        duePanel(pages, 22, 0, 2, 5);
        duePanel(pages, 23, 2, 6, 3);
        due("the buffer", pages.clearBuffer(), 0);
        write(pages, "s1");
        due("none comes", pages.story(), 0);
        due("the buffer if none comes", pages.clearBuffer(), 0);
        due("undo of none", pages.undo(), 5);
        dueCount(pages, 0, 24);
        due("undo of two, as one call", pages.undo(), 4);
        dueCount(pages, 0, 22);
    }

    private void promise10Undo() {
        SplashPages pages = new SplashPages();
        dueThrow("undo() first", pages, STATE, pages::undo);
        pages.put(0, 0, 1, 1);
        pages.put(1, 1, 2, 2);
        pages.change(1, 3, 4);
        pages.take(0);
        pages.set(40);
        pages.set(40);
        dueCount(pages, 8, 6);
        due("undo of a set that changes nothing", pages.undo(), 5);
        dueCount(pages, 7, 40);
        due("undo of set", pages.undo(), 4);
        dueCount(pages, 7, 30);
        due("undo of take", pages.undo(), 3);
        dueCount(pages, 0, 2);
        duePanel(pages, 0, 0, 1, 1);
        duePanel(pages, 1, 1, 3, 4);
        due("undo of change", pages.undo(), 2);
        duePanel(pages, 1, 1, 2, 2);
        due("undo of put", pages.undo(), 1);
        due("undo of put", pages.undo(), 0);
        dueCount(pages, 0, 0);
        dueThrow("undo() behind them", pages, STATE, pages::undo);
        for (int beats = 10; beats <= 17; beats++) {
            pages.set(beats);
        }
        for (int left = 5; left >= 0; left--) {
            due("undo", pages.undo(), left);
            dueCount(pages, 7, 11 + left);
        }
        dueThrow("the oldest ones are dropped", pages, STATE, pages::undo);
        pages.set(50);
        due("undo behind drops", pages.undo(), 0);
        dueCount(pages, 7, 11);
    }

    private void promise10UndoLeavesTheBuffer() {
        SplashPages pages = told("p11");
        write(pages, "b2");
        dueCount(pages, 1, 1);
        due("undo", pages.undo(), 0);
        dueCount(pages, 0, 0);
        dueCount(pages, 1, 0);
        duePage(pages, 0, 0, 0, 24, NONE, 0, 0);
        due("the buffer stays", pages.firstError(), 2);
        due("the buffer stays", pages.clearBuffer(), 2);
    }

    private void promise11Panel() {
        SplashPages pages = told("p34b52s7d8");
        duePlace(pages, 0, 0, 0, 0);
        duePlace(pages, 1, 0, 1, 0);
        duePlace(pages, 2, 1, NONE, NONE);
        duePlace(pages, 3, 2, NONE, NONE);
        dueThrow("panel(4, 0)", pages, INDEX, () -> pages.panel(4, 0));
        dueThrow("panel(4, 6)", pages, INDEX, () -> pages.panel(4, 6));
        dueThrow("panel(-1, 0)", pages, INDEX, () -> pages.panel(-1, 0));
        dueThrow("panel(0, 6)", pages, ARGUMENT, () -> pages.panel(0, 6));
        dueThrow("panel(0, -1)", pages, ARGUMENT, () -> pages.panel(0, -1));
    }

    private void promise12Page() {
        SplashPages pages = told("p34b52s7p12d8b21b32p11");
        duePage(pages, 0, 2, 6, 16, 0, 0, 1);
        duePage(pages, 1, 1, 7, 0, 2, 0, 0);
        duePage(pages, 2, 1, 2, 23, 3, 0, 0);
        duePage(pages, 3, 0, 0, 24, NONE, 1, 0);
        duePage(pages, 4, 1, 8, 0, 4, 0, 0);
        duePage(pages, 5, 1, 0, 0, 4, 0, 0);
        duePage(pages, 6, 3, 4, 18, 5, 0, 2);
        duePage(pages, 7, 0, 0, 24, NONE, 0, 0);
        duePage(pages, 15, 0, 0, 24, NONE, 0, 0);
        dueThrow("page(16, 0)", pages, INDEX, () -> pages.page(16, 0));
        dueThrow("page(16, 6)", pages, INDEX, () -> pages.page(16, 6));
        dueThrow("page(-1, 0)", pages, INDEX, () -> pages.page(-1, 0));
        dueThrow("page(0, 6)", pages, ARGUMENT, () -> pages.page(0, 6));
        dueThrow("page(15, -1)", pages, ARGUMENT, () -> pages.page(15, -1));
    }

    private void promise13At() {
        SplashPages pages = told("p21p31p41s1p11d1b21");
        dueRow(pages, 0, 0, "aabbb.");
        dueRow(pages, 0, 1, "cccc..");
        dueRow(pages, 0, 2, "......");
        for (int row = 0; row < 4; row++) {
            dueRow(pages, 1, row, "dddddd");
            dueRow(pages, 3, row, "......");
            dueRow(pages, 4, row, "ffffff");
            dueRow(pages, 5, row, "ffffff");
            dueRow(pages, 15, row, "......");
        }
        dueRow(pages, 2, 0, "e.....");
        dueRow(pages, 6, 0, "gg....");
        dueThrow("at(16, 0, 0)", pages, INDEX, () -> pages.at(16, 0, 0));
        dueThrow("at(-1, 0, 0)", pages, INDEX, () -> pages.at(-1, 0, 0));
        dueThrow("at(0, 4, 0)", pages, INDEX, () -> pages.at(0, 4, 0));
        dueThrow("at(0, -1, 0)", pages, INDEX, () -> pages.at(0, -1, 0));
        dueThrow("at(0, 0, 6)", pages, INDEX, () -> pages.at(0, 0, 6));
        dueThrow("at(0, 0, -1)", pages, INDEX, () -> pages.at(0, 0, -1));
    }

    private void promise14Count() {
        SplashPages pages = told("p34b52s7p12d8b21b32p11");
        dueCount(pages, 0, 8);
        dueCount(pages, 1, 7);
        dueCount(pages, 2, 1);
        dueCount(pages, 3, 0);
        dueCount(pages, 4, 8);
        dueCount(pages, 5, 16 + 23 + 18);
        dueCount(pages, 6, 8);
        dueCount(pages, 7, 30);
        dueCount(pages, 8, 1);
        dueThrow("count(9)", pages, ARGUMENT, () -> pages.count(9));
        dueThrow("count(-1)", pages, ARGUMENT, () -> pages.count(-1));
        // The last used page faces one that is not used; pages 1 and 2 do not face each other.
        SplashPages single = told("p19s9p13");
        dueCount(single, 6, 3);
        dueCount(single, 4, 9);
        SplashPages ahead = told("p19p18s9p13");
        dueCount(ahead, 4, 17);
        dueCount(ahead, 6, 8);
    }

    private void promise15IfExchanged() {
        // As it is: page 0, then a blank page 1 ahead of the spread. Exchanged: no blank page.
        SplashPages pages = told("p11d9b22");
        dueCount(pages, 1, 5);
        dueCount(pages, 5, 23 + 22);
        due("pages of 0 and 1", pages.ifExchanged(0, 0), 3);
        due("empty of 0 and 1", pages.ifExchanged(0, 1), 21);
        due("pages of 1 and 2", pages.ifExchanged(1, 0), 4);
        due("empty of 1 and 2", pages.ifExchanged(1, 1), 21);
        duePanel(pages, 0, 0, 1, 1);
        duePanel(pages, 1, 3, 6, 9);
        dueCount(pages, 8, 1);
        dueThrow("none behind it", pages, INDEX, () -> pages.ifExchanged(2, 0));
        dueThrow("no such panel", pages, INDEX, () -> pages.ifExchanged(3, 2));
        dueThrow("panel -1", pages, INDEX, () -> pages.ifExchanged(-1, 0));
        dueThrow("panel MAX", pages, INDEX, () -> pages.ifExchanged(Integer.MAX_VALUE, 0));
        dueThrow("what 2", pages, ARGUMENT, () -> pages.ifExchanged(0, 2));
        dueThrow("what -1", pages, ARGUMENT, () -> pages.ifExchanged(1, -1));
        dueThrow("what 2 of the last", pages, INDEX, () -> pages.ifExchanged(2, 2));
        SplashPages empty = new SplashPages();
        dueThrow("without panels", empty, INDEX, () -> empty.ifExchanged(0, 0));
    }

    private void promise16LeastSetting() {
        SplashPages pages = new SplashPages();
        due("without panels", pages.leastSetting(), 9);
        pages.set(9);
        due("at the least", pages.leastSetting(), 9);
        SplashPages three = told("p15p15p15");
        due("15 beats on one page", three.leastSetting(), 15);
        three.set(14);
        due("two pages", three.leastSetting(), 10);
        three.set(9);
        due("three pages", three.leastSetting(), 9);
        dueCount(three, 7, 9);
        // All rows are filled, so the panel behind them is on the next page anyhow.
        SplashPages rows = told("p61p61p61p61p69");
        due("rows end the page", rows.leastSetting(), 9);
    }

    private void promise16LeastSettingWithLeftOut() {
        // The second panel on a page of its own makes the last splash one page too many.
        SplashPages pages = told("p16p16d1d1d1d1d1d1d1");
        dueCount(pages, 1, 16);
        dueCount(pages, 3, 0);
        due("the blank page serves as well", pages.leastSetting(), 9);
        SplashPages splashes = told("p16p16s1s1s1s1s1s1s1s1s1s1s1s1s1s1s1");
        dueCount(splashes, 1, 16);
        dueCount(splashes, 3, 0);
        due("no more are left out", splashes.leastSetting(), 12);
        splashes.set(11);
        dueCount(splashes, 3, 1);
        due("as many are left out", splashes.leastSetting(), 9);
    }

    private void promise17BestWidth() {
        SplashPages pages = told("p31");
        due("alone: the widest leaves least empty", pages.bestWidth(0), 6);
        SplashPages row = told("p41p41p61p61p61");
        dueCount(row, 1, 2);
        due("one page less, as wide as it may be", row.bestWidth(0), 2);
        due("one page less, of the second", row.bestWidth(1), 2);
        duePanel(row, 0, 0, 4, 1);
        dueCount(row, 8, 1);
        SplashPages splash = told("p11s5d5");
        due("of a splash the least", splash.bestWidth(1), 1);
        due("of a spread the least", splash.bestWidth(2), 1);
        // No width leaves one out here, so the pages decide: two rows for the first two cost a page.
        SplashPages full = told("p41p61p61p61p61s1s1s1s1s1s1s1s1s1s1s1s1s1s1");
        dueCount(full, 3, 0);
        due("none is left out at any width", full.bestWidth(1), 2);
        SplashPages out = told("p41p61p61p61p21s1s1s1s1s1s1s1s1s1s1s1s1s1s1s1");
        dueCount(out, 3, 1);
        due("a splash less left out", out.bestWidth(0), 6);
        due("one row for two: none left out", out.bestWidth(4), 6);
        due("the second as short as the first leaves room", out.bestWidth(1), 2);
        dueThrow("bestWidth(-1)", out, INDEX, () -> out.bestWidth(-1));
        dueThrow("bestWidth(20)", out, INDEX, () -> out.bestWidth(20));
        SplashPages empty = new SplashPages();
        dueThrow("without panels", empty, INDEX, () -> empty.bestWidth(0));
    }

    private void promise18Fullness() {
        SplashPages pages = new SplashPages();
        dueShare("without panels", pages.fullness(), 1.0);
        dueShare("one unit", told("p11").fullness(), 1.0 / 24.0);
        dueShare("a splash", told("s1").fullness(), 1.0);
        dueShare("the blank page does not count", told("p11d9").fullness(), 49.0 / 72.0);
        dueShare("the shift ahead of a bleeding one counts", told("s1p11b21").fullness(), 27.0 / 48.0);
    }

    private void promise19Digest() {
        // The shares of one page with one to ten units, and of splashes behind it, have their own bits.
        for (int units = 1; units <= 10; units++) {
            for (int splashes = 0; splashes < 4; splashes++) {
                SplashPages pages = new SplashPages();
                for (int i = 0; i < units; i++) {
                    pages.put(i, 0, 1, 1);
                }
                for (int i = 0; i < splashes; i++) {
                    pages.put(units + i, 2, 6, 1);
                }
                dueDigest(pages, "");
            }
        }
        SplashPages empty = new SplashPages();
        dueDigest(empty, "");
        write(empty, "p1!~x");
        dueDigest(empty, "p1!~x");
        dueDigest(told("p34b52s7p12d8b21b32p11"), "");
        dueDigest(told("d9d9d9d9d9d9d9d9d9p11"), "");
    }

    private void dueDigest(SplashPages pages, String buffer) {
        long want = 3433;
        for (int what = 0; what <= 8; what++) {
            want = 31 * want + pages.count(what);
        }
        int size = pages.count(0);
        for (int panel = 0; panel < size; panel++) {
            for (int what = 0; what <= 5; what++) {
                want = 31 * want + pages.panel(panel, what);
            }
            want = 31 * want + pages.bestWidth(panel);
            if (panel + 1 < size) {
                want = 31 * (31 * want + pages.ifExchanged(panel, 0)) + pages.ifExchanged(panel, 1);
            }
        }
        for (int page = 0; page < 16; page++) {
            for (int what = 0; what <= 5; what++) {
                want = 31 * want + pages.page(page, what);
            }
            for (int i = 0; i < 24; i++) {
                want = 31 * want + pages.at(page, i / 6, i % 6);
            }
        }
        want = 31 * want + pages.leastSetting();
        want = 31 * want + Double.doubleToLongBits(pages.fullness());
        want = 31 * want + buffer.length();
        for (int i = 0; i < buffer.length(); i++) {
            want = 31 * want + buffer.charAt(i);
        }
        due("digest()", pages.digest(), want);
        due("digest() again", pages.digest(), want);
    }

    // ---- pouring

    private void pouringSplash() {
        SplashPages pages = told("s1s2p13s4p15");
        duePlace(pages, 0, 0, NONE, NONE);
        duePlace(pages, 1, 1, NONE, NONE);
        duePlace(pages, 2, 2, 0, 0);
        duePlace(pages, 3, 3, NONE, NONE);
        duePlace(pages, 4, 4, 0, 0);
    }

    private void pouringSpread() {
        SplashPages first = told("d1p11");
        duePlace(first, 0, 0, NONE, NONE);
        duePlace(first, 1, 2, 0, 0);
        SplashPages left = told("s1d1");
        duePlace(left, 1, 2, NONE, NONE);
        duePage(left, 1, 0, 0, 24, NONE, 1);
        SplashPages right = told("s1s1p11d1");
        duePlace(right, 3, 4, NONE, NONE);
        duePage(right, 3, 0, 0, 24, NONE, 1);
        SplashPages begun = told("s1p11d1");
        duePlace(begun, 2, 2, NONE, NONE);
        dueCount(begun, 2, 0);
    }

    private void pouringBeats() {
        SplashPages pages = told("p19p19p19p13p11");
        duePlace(pages, 3, 0, 0, 3);
        duePlace(pages, 4, 1, 0, 0);
        // What is alone on its page is set there though the page behind a splash bears nothing yet.
        SplashPages splash = told("s9p19");
        splash.set(9);
        duePlace(splash, 1, 1, 0, 0);
        SplashPages alone = told("p19p19");
        alone.set(9);
        duePlace(alone, 0, 0, 0, 0);
        duePlace(alone, 1, 1, 0, 0);
    }

    private void pouringRows() {
        SplashPages pages = told("p31p31p11p61p51p21p11");
        dueRow(pages, 0, 0, "aaabbb");
        dueRow(pages, 0, 1, "c.....");
        dueRow(pages, 0, 2, "dddddd");
        dueRow(pages, 0, 3, "eeeee.");
        dueRow(pages, 1, 0, "ffg...");
    }

    private void pouringBleedsOnTheRight() {
        SplashPages pages = told("b21b11p11b61b31b21");
        dueRow(pages, 0, 0, "aa....");
        dueRow(pages, 0, 1, "bc....");
        dueRow(pages, 0, 2, "dddddd");
        dueRow(pages, 0, 3, "eee...");
        dueRow(pages, 1, 0, "....ff");
        duePage(pages, 0, 5, 5, 11, 0, 0, 4);
        SplashPages wide = told("p11b61p61p61b11");
        dueRow(wide, 0, 1, "bbbbbb");
        dueRow(wide, 1, 0, ".....e");
    }

    private void pouringBleedsOnTheLeft() {
        SplashPages pages = told("s1p11b21b31p11b61p11b51p11b51p11");
        dueRow(pages, 1, 0, "b...cc");
        dueRow(pages, 1, 1, "...ddd");
        dueRow(pages, 1, 2, "e.....");
        dueRow(pages, 1, 3, "ffffff");
        dueRow(pages, 2, 0, "g.....");
        dueRow(pages, 2, 1, "hhhhhi");
        dueRow(pages, 2, 2, "jjjjjk");
    }

    private void pouringLeavesOut() {
        SplashPages pages = told("s1s1s1s1s1s1s1s1s1s1s1s1s1s1s1p11d1p11");
        dueCount(pages, 3, 2);
        dueCount(pages, 1, 16);
        duePlace(pages, 15, 15, 0, 0);
        duePlace(pages, 16, NONE, NONE, NONE);
        duePlace(pages, 17, NONE, NONE, NONE);
        SplashPages spread = told("s1s1s1s1s1s1s1s1s1s1s1s1s1s1s1d1");
        dueCount(spread, 1, 15);
        dueCount(spread, 2, 0);
        dueCount(spread, 3, 1);
        SplashPages plain = told("s1s1s1s1s1s1s1s1s1s1s1s1s1s1s1s1p11b11");
        dueCount(plain, 3, 2);
        dueCount(plain, 1, 16);
        SplashPages bleeding = told("d1d1d1d1d1d1d1s1p61p61p61b51b61s1");
        duePlace(bleeding, 11, 15, 3, 1);
        dueCount(bleeding, 3, 2);
    }
}
