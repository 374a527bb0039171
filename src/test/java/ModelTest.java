import java.util.Random;

/** The same random calls, good and wrong ones, on the program and on the model of the document. */
public final class ModelTest {
    private static final int RUNS = 300;
    // An appended part may be three calls, several at once: this keeps a run below the 512 promised.
    private static final int CALLS = 480;

    private interface Answer {
        long get();
    }

    private final Checks checks = new Checks();
    private final Random random;
    private final SplashPages pages = new SplashPages();
    private final Model model = new Model();
    private final String name;
    private int most = 9;

    private ModelTest(int run) {
        random = new Random(run);
        name = "run " + run + ": ";
    }

    public static void main(String[] args) {
        Checks all = new Checks();
        for (int run = 0; run < RUNS; run++) {
            all.due("run " + run, new ModelTest(run).wrongAnswers(), 0);
        }
        all.end();
    }

    private static String told(Answer answer) {
        try {
            return String.valueOf(answer.get());
        } catch (RuntimeException e) {
            return e.getClass().getSimpleName();
        }
    }

    private int wrong = 0;
    private int made = 0;

    private void same(String call, Answer got, Answer want) {
        made++;
        String answered = told(got);
        String due = told(want);
        if (!answered.equals(due)) {
            wrong++;
            System.out.println(name + call + " answered " + answered + ", due is " + due);
        }
    }

    /** Mostly a number within the bounds, at times one just outside, seldom one far off. */
    private int about(int least, int most) {
        int dice = random.nextInt(60);
        if (dice == 0) {
            return random.nextBoolean() ? Integer.MIN_VALUE : Integer.MAX_VALUE;
        }
        int outside = dice < 4 ? 1 : 0;
        return least - outside + random.nextInt(most - least + 1 + 2 * outside);
    }

    private int wrongAnswers() {
        // Some runs have few beats, so that rows and not beats end a page; others mostly whole pages.
        most = random.nextInt(3) == 0 ? 2 : 9;
        boolean whole = random.nextInt(4) == 0;
        while (made < CALLS && wrong == 0) {
            int dice = random.nextInt(100);
            if (dice < 40) {
                callPanels(random.nextInt(12), whole);
            } else if (dice < 60) {
                callTexts(random.nextInt(10));
            } else if (dice < 95) {
                callLooks(random.nextInt(9));
            } else {
                same("digest()", pages::digest, model::digest);
            }
        }
        same("digest() at the end", pages::digest, model::digest);
        return wrong;
    }

    private void callPanels(int which, boolean whole) {
        int size = model.now.panels().size();
        int width = about(1, 6);
        int beats = about(1, most);
        if (which < 7) {
            int at = about(0, size);
            int kind = whole ? about(2, 3) : Math.max(random.nextInt(3) == 0 ? 0 : about(0, 3), -1);
            same("put", () -> pages.put(at, kind, width, beats), () -> model.put(at, kind, width, beats));
        } else if (which < 8) {
            int panel = about(0, size);
            same("take", () -> pages.take(panel), () -> model.take(panel));
        } else if (which < 10) {
            int panel = about(0, size);
            same("change", () -> pages.change(panel, width, beats), () -> model.change(panel, width, beats));
        } else {
            int setting = about(9, random.nextBoolean() ? 60 : 20);
            same("set", () -> pages.set(setting), () -> model.set(setting));
        }
    }

    private void callTexts(int which) {
        if (which < 4) {
            for (int parts = random.nextInt(6); parts > 0; parts--) {
                appendPart();
            }
        } else if (which < 5) {
            appendCode(about(33, 126));
        } else if (which < 6) {
            same("clearBuffer", pages::clearBuffer, model::clearBuffer);
        } else if (which < 7) {
            same("undo", pages::undo, model::undo);
        } else {
            same("firstError", pages::firstError, model::firstError);
            same("story", pages::story, model::story);
        }
    }

    private void appendPart() {
        int kind = random.nextInt(4);
        appendCode("pbsd".charAt(kind));
        if (kind < 2) {
            appendCode('0' + (random.nextInt(40) == 0 ? random.nextInt(10) : 1 + random.nextInt(6)));
        }
        appendCode('0' + (random.nextInt(40) == 0 ? 0 : 1 + random.nextInt(9)));
    }

    private void appendCode(int code) {
        same("append", () -> pages.append(code), () -> model.append(code));
    }

    private void callLooks(int which) {
        int size = model.now.panels().size();
        int panel = about(0, size);
        int page = about(0, 15);
        int what = about(0, 5);
        switch (which) {
            case 0 -> same("panel", () -> pages.panel(panel, what), () -> model.panel(panel, what));
            case 1 -> same("page", () -> pages.page(page, what), () -> model.page(page, what));
            case 2 -> {
                int row = about(0, 3);
                int unit = about(0, 5);
                same("at", () -> pages.at(page, row, unit), () -> model.at(page, row, unit));
            }
            case 3 -> {
                int number = about(0, 8);
                same("count", () -> pages.count(number), () -> model.count(number));
            }
            case 4 -> {
                int number = about(0, 1);
                same("ifExchanged", () -> pages.ifExchanged(panel, number), () -> model.ifExchanged(panel, number));
            }
            case 5 -> same("leastSetting", pages::leastSetting, model::leastSetting);
            case 6 -> same("bestWidth", () -> pages.bestWidth(panel), () -> model.bestWidth(panel));
            case 7 -> same("fullness", () -> Double.doubleToLongBits(pages.fullness()),
                    () -> Double.doubleToLongBits(model.fullness()));
            default -> same("count(3)", () -> pages.count(3), () -> model.count(3));
        }
    }
}
