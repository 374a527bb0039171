/** The edges of texts and of undo: each character at each place, a full buffer, no room, no saved state and too many. */
public final class TextEdgesTest extends Checks {
    public static void main(String[] args) {
        TextEdgesTest test = new TextEdgesTest();
        test.emptyBuffer();
        test.eachCharacterAtEachPlace();
        test.anErrorHidesThoseBehindIt();
        test.incompletePartsAreNoErrors();
        test.errorsInAFullBuffer();
        test.storiesOfAnyLength();
        test.clearBufferReturnsItsLength();
        test.storyOfEachPart();
        test.storyAddsBehindTheOthers();
        test.storyUpToTheFirstWithoutRoom();
        test.storyOfAFullBuffer();
        test.storyClearsTheBuffer();
        test.eachUndoableCallSavesOneState();
        test.callsThatChangeNothingSaveAState();
        test.otherCallsSaveNone();
        test.sixStatesAndTheOldestIsDropped();
        test.undoRestoresPanelsAndSetting();
        test.undoOfAStoryIsOneCall();
        test.undoLeavesTheBuffer();
        test.undoAndCallsInTurn();
        test.objectsAreApart();
        test.callsUpToThe512th();
        test.end();
    }

    // ---- the buffer

    private static SplashPages withBuffer(String text) {
        SplashPages pages = new SplashPages();
        write(pages, text);
        return pages;
    }

    private void dueError(String text, int want) {
        due("firstError() of " + text, withBuffer(text).firstError(), want);
    }

    private void emptyBuffer() {
        sentence("an empty buffer");
        SplashPages pages = new SplashPages();
        due("firstError()", pages.firstError(), 0);
        due("clearBuffer()", pages.clearBuffer(), 0);
        dueThrow("story()", pages, ARGUMENT, pages::story);
    }

    /** Behind each beginning of a text just these characters may follow. */
    private void eachCharacterAtEachPlace() {
        sentence("a character is a syntax error if no story begins with the characters before it and this character");
        String[][] mayFollow = {
            {"", "pbsd"}, {"p", "123456"}, {"b", "123456"}, {"p1", "123456789"}, {"p6", "123456789"},
            {"b1", "123456789"}, {"b6", "123456789"}, {"s", "123456789"}, {"d", "123456789"},
            {"p11", "pbsd"}, {"b69", "pbsd"}, {"s1", "pbsd"}, {"s9", "pbsd"}, {"d1", "pbsd"}, {"d9", "pbsd"},
            {"s1p11b69d9", "pbsd"}, {"d9b", "123456"}, {"b69p6", "123456789"}, {"p11s", "123456789"},
        };
        for (String[] place : mayFollow) {
            for (char code = 33; code <= 126; code++) {
                boolean fine = place[1].indexOf(code) >= 0;
                dueError(place[0] + code, place[0].length() + (fine ? 1 : 0));
            }
        }
    }

    private void anErrorHidesThoseBehindIt() {
        sentence("the index of the first character that is a syntax error");
        dueError("xp11", 0);
        dueError("pp11", 1);
        dueError("s1xs1", 2);
        dueError("s1xxxx", 2);
        dueError("p10p11", 2);
        dueError("p1b11", 2);
        dueError("s1s1s0s1s0", 5);
    }

    private void incompletePartsAreNoErrors() {
        sentence("the length of the buffer if there is none");
        dueError("p", 1);
        dueError("p6", 2);
        dueError("p69", 3);
        dueError("s", 1);
        dueError("s9", 2);
        dueError("s9d", 3);
        dueError("s9b1", 4);
    }

    private void errorsInAFullBuffer() {
        sentence("an error among 60 characters");
        dueError("s1".repeat(30), 60);
        dueError("p69".repeat(20), 60);
        dueError("s1".repeat(29) + "s0", 59);
        dueError("s1".repeat(29) + "0s", 58);
        dueError("x" + "s1".repeat(29) + "s", 0);
        dueError("p11".repeat(19) + "p10", 59);
    }

    private void storiesOfAnyLength() {
        sentence("no story as a text, of any length: one longer than the buffer, or with more than 24 panels, is one");
        dueError("s1".repeat(29) + "pb", 59);
        dueError("s1".repeat(28) + "p11p", 60);
        dueError("p11".repeat(19) + "p1" + "1", 60);
        dueError("p11".repeat(19) + "s1p", 60);
        SplashPages pages = withBuffer("s1".repeat(29) + "s");
        dueThrow("incomplete at 59 characters", pages, ARGUMENT, pages::story);
        SplashPages full = withBuffer("s1".repeat(28) + "p11p");
        due("no error at 60 characters", full.firstError(), 60);
        dueThrow("incomplete at 60 characters", full, ARGUMENT, full::story);
    }

    private void clearBufferReturnsItsLength() {
        sentence("clearBuffer returns the length that it had");
        for (int length = 0; length <= 60; length++) {
            SplashPages pages = withBuffer("x".repeat(length));
            due("clearBuffer()", pages.clearBuffer(), length);
            due("clearBuffer() again", pages.clearBuffer(), 0);
            due("firstError()", pages.firstError(), 0);
        }
        SplashPages pages = withBuffer("x".repeat(60));
        pages.clearBuffer();
        tell(pages, "s1".repeat(30));
        dueCount(pages, 0, 24);
    }

    // ---- story

    private void storyOfEachPart() {
        sentence("each part a kind, behind p and b a width, and then beats (splash and spread with the width 6)");
        for (int kind = 0; kind <= 3; kind++) {
            for (int width = 1; width <= (kind < 2 ? 6 : 1); width++) {
                for (int beats = 1; beats <= 9; beats++) {
                    String text = "pbsd".charAt(kind) + (kind < 2 ? "" + width : "") + beats;
                    SplashPages pages = withBuffer(text);
                    due("story() of " + text, pages.story(), 1);
                    duePanel(pages, 0, kind, kind < 2 ? width : 6, beats);
                }
            }
        }
        SplashPages mixed = told("b69d1p16s9b21");
        duePanel(mixed, 0, 1, 6, 9);
        duePanel(mixed, 1, 3, 6, 1);
        duePanel(mixed, 2, 0, 1, 6);
        duePanel(mixed, 3, 2, 6, 9);
        duePanel(mixed, 4, 1, 2, 1);
    }

    private void storyAddsBehindTheOthers() {
        sentence("story adds the panels behind the others, one after the other");
        SplashPages pages = told("p11");
        write(pages, "b22s3");
        due("story()", pages.story(), 2);
        duePanel(pages, 0, 0, 1, 1);
        duePanel(pages, 1, 1, 2, 2);
        duePanel(pages, 2, 2, 6, 3);
        duePlace(pages, 1, 0, 1, 0);
        duePlace(pages, 2, 1, NONE, NONE);
    }

    private void storyUpToTheFirstWithoutRoom() {
        sentence("up to the first one for which there is no room among the 24");
        for (int room = 0; room <= 3; room++) {
            SplashPages pages = withPlainPanels(24 - room);
            int saved = pages.count(8);
            write(pages, "p25s3");
            due("story() with room for " + room, pages.story(), Math.min(room, 2));
            dueCount(pages, 0, room == 3 ? 23 : 24);
            dueCount(pages, 8, Math.min(saved + 1, 6));
            due("the buffer", pages.clearBuffer(), 0);
            if (room > 0) {
                duePanel(pages, 24 - room, 0, 2, 5);
            }
            if (room > 1) {
                duePanel(pages, 25 - room, 2, 6, 3);
            }
            due("undo()", pages.undo(), 5);
            dueCount(pages, 0, 24 - room);
        }
    }

    private void storyOfAFullBuffer() {
        sentence("a story of 60 characters");
        SplashPages thirty = withBuffer("s1d2".repeat(15));
        due("30 panels", thirty.story(), 24);
        dueCount(thirty, 0, 24);
        duePanel(thirty, 0, 2, 6, 1);
        duePanel(thirty, 23, 3, 6, 2);
        SplashPages twenty = withBuffer("p23b14".repeat(10));
        due("20 panels", twenty.story(), 20);
        duePanel(twenty, 19, 1, 1, 4);
        due("one more", twenty.put(20, 0, 1, 1), 21);
    }

    private void storyClearsTheBuffer() {
        sentence("story clears the buffer, also if none comes");
        SplashPages pages = withPlainPanels(24);
        write(pages, "s1".repeat(30));
        due("story()", pages.story(), 0);
        due("firstError()", pages.firstError(), 0);
        dueThrow("a second story()", pages, ARGUMENT, pages::story);
        due("append()", pages.append('s'), 1);
    }

    // ---- undo

    private void eachUndoableCallSavesOneState() {
        sentence("each method that is marked undoable saves the state from before it");
        SplashPages pages = new SplashPages();
        pages.put(0, 0, 1, 1);
        dueCount(pages, 8, 1);
        pages.change(0, 2, 2);
        dueCount(pages, 8, 2);
        pages.set(10);
        dueCount(pages, 8, 3);
        tell(pages, "s1d1p11");
        dueCount(pages, 8, 4);
        pages.take(0);
        dueCount(pages, 8, 5);
        pages.take(0);
        dueCount(pages, 8, 6);
    }

    private void callsThatChangeNothingSaveAState() {
        sentence("also if it changes nothing");
        SplashPages pages = withPlainPanels(3);
        pages.set(30);
        dueCount(pages, 8, 4);
        pages.change(0, 1, 1);
        dueCount(pages, 8, 5);
        SplashPages full = told("s1".repeat(24));
        tell(full, "p11");
        dueCount(full, 8, 2);
        due("undo of the story that brought none", full.undo(), 1);
        dueCount(full, 0, 24);
        due("undo of the story ahead of it", full.undo(), 0);
        dueCount(full, 0, 0);
    }

    private void otherCallsSaveNone() {
        sentence("methods that are not marked save no state");
        SplashPages pages = told("p11s1");
        pages.append('p');
        dueCount(pages, 8, 1);
        pages.clearBuffer();
        pages.clearBuffer();
        pages.firstError();
        pages.leastSetting();
        pages.bestWidth(0);
        pages.ifExchanged(0, 0);
        pages.digest();
        dueCount(pages, 8, 1);
        due("undo()", pages.undo(), 0);
        dueThrow("an undo is not saved", pages, STATE, pages::undo);
    }

    private void sixStatesAndTheOldestIsDropped() {
        sentence("at most 6 states are saved; the oldest one is dropped first");
        for (int calls = 0; calls <= 20; calls++) {
            SplashPages pages = new SplashPages();
            for (int i = 1; i <= calls; i++) {
                pages.set(30 + i);
                dueCount(pages, 8, Math.min(i, 6));
            }
            int kept = Math.min(calls, 6);
            for (int back = 1; back <= kept; back++) {
                due("undo() behind " + calls, pages.undo(), kept - back);
                dueCount(pages, 7, 30 + calls - back);
            }
            dueThrow("none is left behind " + calls, pages, STATE, pages::undo);
            dueCount(pages, 7, 30 + calls - kept);
        }
    }

    private void undoRestoresPanelsAndSetting() {
        sentence("undo restores the latest saved state");
        SplashPages pages = told("p34b52s7d8");
        pages.put(1, 3, 2, 6);
        pages.change(0, 6, 9);
        pages.take(4);
        pages.set(9);
        pages.take(0);
        due("undo of take", pages.undo(), 5);
        duePanel(pages, 0, 0, 6, 9);
        duePanel(pages, 1, 3, 2, 6);
        dueCount(pages, 7, 9);
        due("undo of set", pages.undo(), 4);
        dueCount(pages, 7, 30);
        due("undo of take", pages.undo(), 3);
        dueCount(pages, 0, 5);
        duePanel(pages, 4, 3, 6, 8);
        due("undo of change", pages.undo(), 2);
        duePanel(pages, 0, 0, 3, 4);
        due("undo of put", pages.undo(), 1);
        duePanel(pages, 1, 1, 5, 2);
        duePanel(pages, 3, 3, 6, 8);
        dueCount(pages, 0, 4);
        duePlace(pages, 1, 0, 1, 0);
        duePlace(pages, 2, 1, NONE, NONE);
        duePage(pages, 0, 2, 6, 16, 0, 0, 1);
        dueCount(pages, 1, 4);
        due("undo of story", pages.undo(), 0);
        due("as new", pages.digest(), new SplashPages().digest());
    }

    private void undoOfAStoryIsOneCall() {
        sentence("story: undoable, as one call");
        SplashPages pages = told("p11");
        tell(pages, "p22p33p44p55p66p11p12p13p14");
        dueCount(pages, 8, 2);
        due("undo()", pages.undo(), 1);
        dueCount(pages, 0, 1);
        duePanel(pages, 0, 0, 1, 1);
    }

    private void undoLeavesTheBuffer() {
        sentence("all, but the buffer and the saved states");
        SplashPages pages = new SplashPages();
        write(pages, "p1");
        pages.set(40);
        pages.append('x');
        due("undo()", pages.undo(), 0);
        due("an appended one stays", pages.firstError(), 2);
        due("its length", pages.clearBuffer(), 3);
        tell(pages, "s1");
        due("undo of a story", pages.undo(), 0);
        due("its text does not come back", pages.clearBuffer(), 0);
        pages.set(40);
        write(pages, "s1".repeat(30));
        due("undo() with a full buffer", pages.undo(), 0);
        due("a full buffer stays", pages.firstError(), 60);
        dueThrow("a 61st", pages, STATE, () -> pages.append('s'));
    }

    private void undoAndCallsInTurn() {
        sentence("undo drops the state that it restores");
        SplashPages pages = new SplashPages();
        for (int i = 1; i <= 10; i++) {
            pages.set(30 + i);
        }
        pages.undo();
        pages.undo();
        due("two of six are dropped", pages.undo(), 3);
        dueCount(pages, 7, 37);
        for (int i = 1; i <= 5; i++) {
            pages.set(50 + i);
        }
        dueCount(pages, 8, 6);
        int[] settings = {54, 53, 52, 51, 37, 36};
        for (int left = 5; left >= 0; left--) {
            due("undo()", pages.undo(), left);
            dueCount(pages, 7, settings[5 - left]);
        }
        dueThrow("those ahead were dropped", pages, STATE, pages::undo);
    }

    // ---- objects

    private void objectsAreApart() {
        sentence("a new object is without panels, with an empty buffer");
        SplashPages full = withPlainPanels(24);
        write(full, "x".repeat(60));
        full.set(60);
        SplashPages fresh = new SplashPages();
        for (int what = 0; what <= 8; what++) {
            dueCount(fresh, what, what == 7 ? 30 : 0);
        }
        due("clearBuffer()", fresh.clearBuffer(), 0);
        dueThrow("undo()", fresh, STATE, fresh::undo);
        long before = full.digest();
        tell(fresh, "s1d1");
        fresh.set(9);
        due("the other one", full.digest(), before);
    }

    private void callsUpToThe512th() {
        sentence("an object is used for at most 512 calls after it has been made");
        SplashPages pages = new SplashPages();
        for (int call = 1; call <= 508; call++) {
            if (call <= 24) {
                due("put", pages.put(0, call % 4, 1 + call % 6, 1 + call % 9), call);
            } else {
                pages.set(9 + call % 52);
            }
        }
        due("the 509th", pages.count(8), 6);
        due("the 510th", pages.set(60), 9 + 508 % 52);
        due("the 511th", pages.undo(), 5);
        due("the 512th", pages.count(7), 9 + 508 % 52);
    }
}
