/**
 * A manga story whose panels are poured into rows and pages in the order in which they are read.
 *
 * The story and its layout are kept apart: each call that changes the story pours it anew at once,
 * so the looks only read. What would be is poured into a second layout that is used again and
 * again, so that no call makes an object.
 */
public final class SplashPages {
    public static final int NONE = -1;

    private static final int PAGES = 16;
    private static final int ROWS = 4;
    private static final int UNITS = 6;
    private static final int PAGE_UNITS = ROWS * UNITS;

    private static final int MOST_PANELS = 24;
    private static final int MOST_WIDTH = 6;
    private static final int MOST_BEATS = 9;
    private static final int PLAIN = 0;
    private static final int BLEEDING = 1;
    private static final int SPLASH = 2;
    private static final int SPREAD = 3;

    private static final int LEAST_SETTING = 9;
    private static final int FIRST_SETTING = 30;
    private static final int MOST_SETTING = 60;

    private static final int MOST_CODES = 60;
    private static final int LEAST_CODE = 33;
    private static final int MOST_CODE = 126;
    private static final int AWAITS_KIND = 0;
    private static final int AWAITS_WIDTH = 1;
    private static final int AWAITS_BEATS = 2;

    private static final int MOST_SAVED = 6;

    private static final int LAST_OF_PANEL = 5;
    private static final int LAST_OF_PAGE = 5;
    private static final int LAST_COUNT = 8;

    private static final long FIRST_HASH = 3433L;
    private static final int EXPONENT_OF_ONE = 1023;
    private static final int FRACTION_BITS = 52;

    private final Story now = new Story();
    private final Layout layout = new Layout();
    private final Story trial = new Story();
    private final Layout trialLayout = new Layout();
    private final History history = new History();
    private final Text text = new Text();

    public SplashPages() {
    }

    // ---- panels

    public int put(int at, int kind, int width, int beats)
            throws IndexOutOfBoundsException, IllegalArgumentException, IllegalStateException {
        if (!isWithin(at, 0, now.size)) {
            throw new IndexOutOfBoundsException("at is out of range");
        }
        if (!isWithin(kind, PLAIN, SPREAD) || !isPanelSize(width, beats)) {
            throw new IllegalArgumentException("kind, width or beats is out of range");
        }
        if (now.size >= MOST_PANELS) {
            throw new IllegalStateException("there are 24 panels");
        }
        history.save(now);
        now.insert(at, kind, width, beats);
        layout.pour(now);
        return now.size;
    }

    public int take(int panel) throws IndexOutOfBoundsException {
        if (!now.has(panel)) {
            throw new IndexOutOfBoundsException("there is no such panel");
        }
        history.save(now);
        now.remove(panel);
        layout.pour(now);
        return now.size;
    }

    public int change(int panel, int width, int beats) throws IndexOutOfBoundsException, IllegalArgumentException {
        if (!now.has(panel)) {
            throw new IndexOutOfBoundsException("there is no such panel");
        }
        if (!isPanelSize(width, beats)) {
            throw new IllegalArgumentException("width or beats is out of range");
        }
        history.save(now);
        write(now.widths, panel, width);
        write(now.beats, panel, beats);
        layout.pour(now);
        return layout.used;
    }

    public int set(int beats) throws IllegalArgumentException {
        if (!isWithin(beats, LEAST_SETTING, MOST_SETTING)) {
            throw new IllegalArgumentException("beats is out of range");
        }
        int previous = now.setting;
        history.save(now);
        now.setting = beats;
        layout.pour(now);
        return previous;
    }

    // ---- texts

    public int append(int code) throws IllegalArgumentException, IllegalStateException {
        if (!isWithin(code, LEAST_CODE, MOST_CODE)) {
            throw new IllegalArgumentException("code is not 33 to 126");
        }
        if (text.length >= MOST_CODES) {
            throw new IllegalStateException("the buffer has 60 characters");
        }
        text.add(code);
        return text.length;
    }

    public int clearBuffer() {
        int before = text.length;
        text.length = 0;
        return before;
    }

    public int firstError() {
        return text.indexOfError();
    }

    public int story() throws IllegalArgumentException {
        if (!text.isWhole()) {
            throw new IllegalArgumentException("the buffer is not a complete story as a text");
        }
        history.save(now);
        int come = addPanelsOfText();
        text.length = 0;
        layout.pour(now);
        return come;
    }

    public int undo() throws IllegalStateException {
        if (history.size <= 0) {
            throw new IllegalStateException("there is no saved state");
        }
        history.restoreLatest(now);
        layout.pour(now);
        return history.size;
    }

    // ---- looks; nothing is changed

    public int panel(int panel, int what) throws IndexOutOfBoundsException, IllegalArgumentException {
        if (!now.has(panel)) {
            throw new IndexOutOfBoundsException("there is no such panel");
        }
        if (!isWithin(what, 0, LAST_OF_PANEL)) {
            throw new IllegalArgumentException("what is not 0 to 5");
        }
        return numberOfPanel(panel, what);
    }

    public int page(int page, int what) throws IndexOutOfBoundsException, IllegalArgumentException {
        if (!isWithin(page, 0, PAGES - 1)) {
            throw new IndexOutOfBoundsException("there is no such page");
        }
        if (!isWithin(what, 0, LAST_OF_PAGE)) {
            throw new IllegalArgumentException("what is not 0 to 5");
        }
        return layout.numberOfPage(page, what);
    }

    public int at(int page, int row, int unit) throws IndexOutOfBoundsException {
        if (!isWithin(page, 0, PAGES - 1) || !isWithin(row, 0, ROWS - 1) || !isWithin(unit, 0, UNITS - 1)) {
            throw new IndexOutOfBoundsException("there is no such page, row or unit");
        }
        return panelAt(page, row, unit);
    }

    public int count(int what) throws IllegalArgumentException {
        if (!isWithin(what, 0, LAST_COUNT)) {
            throw new IllegalArgumentException("what is not 0 to 8");
        }
        return numberInAll(what);
    }

    // ---- what would be; nothing is changed

    public int ifExchanged(int panel, int what) throws IndexOutOfBoundsException, IllegalArgumentException {
        if (!now.has(panel) || !now.has(panel + 1)) {
            throw new IndexOutOfBoundsException("there is no such panel, or none behind it");
        }
        if (!isWithin(what, 0, 1)) {
            throw new IllegalArgumentException("what is not 0 or 1");
        }
        return afterExchange(panel, what);
    }

    public int leastSetting() {
        return leastThatServes();
    }

    public int bestWidth(int panel) throws IndexOutOfBoundsException {
        if (!now.has(panel)) {
            throw new IndexOutOfBoundsException("there is no such panel");
        }
        return widthOfLeastCost(panel);
    }

    public double fullness() {
        return shareOfFilled();
    }

    public long digest() {
        long hash = FIRST_HASH;
        for (int what = 0; what <= LAST_COUNT; what++) {
            hash = 31 * hash + numberInAll(what);
        }
        for (int panel = 0; panel < now.size; panel++) {
            hash = hashWithPanel(hash, panel);
        }
        for (int page = 0; page < PAGES; page++) {
            hash = hashWithPage(hash, page);
        }
        hash = 31 * hash + leastThatServes();
        hash = 31 * hash + bitsOf(shareOfFilled());
        hash = 31 * hash + text.length;
        for (int i = 0; i < text.length; i++) {
            hash = 31 * hash + read(text.codes, i);
        }
        return hash;
    }

    // ---- tests of arguments, and rows whose index is looked at first

    private static boolean isWithin(int value, int least, int most) {
        return value >= least && value <= most;
    }

    private static boolean isPanelSize(int width, int beats) {
        return isWithin(width, 1, MOST_WIDTH) && isWithin(beats, 1, MOST_BEATS);
    }

    private static int read(int[] row, int index) {
        return index >= 0 && index < row.length ? row[index] : NONE;
    }

    private static void write(int[] row, int index, int value) {
        if (index >= 0 && index < row.length) {
            row[index] = value;
        }
    }

    // ---- numbers of the story as it is poured

    private int numberOfPanel(int panel, int what) {
        switch (what) {
            case 0:
                return read(now.kinds, panel);
            case 1:
                return read(now.widths, panel);
            case 2:
                return read(now.beats, panel);
            case 3:
                return read(layout.pages, panel);
            case 4:
                return read(layout.rows, panel);
            default:
                return read(layout.units, panel);
        }
    }

    private int numberInAll(int what) {
        switch (what) {
            case 0:
                return now.size;
            case 1:
                return layout.used;
            case 2:
                return layout.used - layout.bearing;
            case 3:
                return layout.leftOut;
            case 4:
                return layout.greatestBeats();
            case 5:
                return layout.emptyUnits();
            case 6:
                return layout.greatestDifference();
            case 7:
                return now.setting;
            default:
                return history.size;
        }
    }

    private int panelAt(int page, int row, int unit) {
        int first = read(layout.pageFirst, page);
        int behind = first + read(layout.pagePanels, page);
        for (int panel = first; panel < behind; panel++) {
            int itsRow = read(layout.rows, panel);
            int itsUnit = read(layout.units, panel);
            // A splash or a spread has no row: it is at all units of its pages.
            if (itsRow == NONE) {
                return panel;
            }
            if (itsRow == row && unit >= itsUnit && unit < itsUnit + read(now.widths, panel)) {
                return panel;
            }
        }
        return NONE;
    }

    private double shareOfFilled() {
        int all = layout.bearing * PAGE_UNITS;
        if (all <= 0) {
            return 1.0;
        }
        return (double) layout.filled / (double) all;
    }

    // ---- what would be

    private int afterExchange(int panel, int what) {
        trial.copyFrom(now);
        trial.exchangeWithNext(panel);
        trialLayout.pour(trial);
        return what == 0 ? trialLayout.used : trialLayout.emptyUnits();
    }

    // More room on a page does not always save pages, so each setting is tried from the least on.
    private int leastThatServes() {
        trial.copyFrom(now);
        for (int setting = LEAST_SETTING; setting < now.setting; setting++) {
            trial.setting = setting;
            trialLayout.pour(trial);
            if (trialLayout.used <= layout.used && trialLayout.leftOut <= layout.leftOut) {
                return setting;
            }
        }
        return now.setting;
    }

    private int widthOfLeastCost(int panel) {
        trial.copyFrom(now);
        int best = NONE;
        int leastCost = 0;
        for (int width = 1; width <= MOST_WIDTH; width++) {
            write(trial.widths, panel, width);
            trialLayout.pour(trial);
            int cost = trialLayout.cost();
            if (best == NONE || cost < leastCost) {
                best = width;
                leastCost = cost;
            }
        }
        return best;
    }

    // ---- the story as a text

    private int addPanelsOfText() {
        int before = now.size;
        int awaited = AWAITS_KIND;
        int kind = PLAIN;
        int width = MOST_WIDTH;
        for (int i = 0; i < text.length && now.size < MOST_PANELS; i++) {
            int code = read(text.codes, i);
            if (awaited == AWAITS_KIND) {
                kind = Text.kindOf(code);
                width = MOST_WIDTH;
            } else if (awaited == AWAITS_WIDTH) {
                width = code - '0';
            } else {
                now.insert(now.size, kind, width, code - '0');
            }
            awaited = Text.awaitedBehind(awaited, code);
        }
        return now.size - before;
    }

    // ---- the hash

    private long hashWithPanel(long before, int panel) {
        long hash = before;
        for (int what = 0; what <= LAST_OF_PANEL; what++) {
            hash = 31 * hash + numberOfPanel(panel, what);
        }
        hash = 31 * hash + widthOfLeastCost(panel);
        if (now.has(panel + 1)) {
            hash = 31 * hash + afterExchange(panel, 0);
            hash = 31 * hash + afterExchange(panel, 1);
        }
        return hash;
    }

    private long hashWithPage(long before, int page) {
        long hash = before;
        for (int what = 0; what <= LAST_OF_PAGE; what++) {
            hash = 31 * hash + layout.numberOfPage(page, what);
        }
        for (int row = 0; row < ROWS; row++) {
            for (int unit = 0; unit < UNITS; unit++) {
                hash = 31 * hash + panelAt(page, row, unit);
            }
        }
        return hash;
    }

    /**
     * The bits of a share, as Double.doubleToLongBits, which the rules of the language leave out,
     * would tell them. Doubling and taking 1 away are exact here, as a share is above 0 (a page that
     * bears has a panel of at least one unit) and at most 1.
     */
    private static long bitsOf(double share) {
        double scaled = share;
        int exponent = EXPONENT_OF_ONE;
        while (scaled < 1.0 && exponent > 1) {
            scaled = scaled * 2.0;
            exponent--;
        }
        long fraction = (long) ((scaled - 1.0) * (double) (1L << FRACTION_BITS));
        return ((long) exponent << FRACTION_BITS) + fraction;
    }

    /** The panels in the order in which they are read, and the setting: what undo restores. */
    private static final class Story {
        private final int[] kinds = new int[MOST_PANELS];
        private final int[] widths = new int[MOST_PANELS];
        private final int[] beats = new int[MOST_PANELS];
        private int size = 0;
        private int setting = FIRST_SETTING;

        private boolean has(int panel) {
            return panel >= 0 && panel < size;
        }

        private void copyFrom(Story other) {
            System.arraycopy(other.kinds, 0, kinds, 0, MOST_PANELS);
            System.arraycopy(other.widths, 0, widths, 0, MOST_PANELS);
            System.arraycopy(other.beats, 0, beats, 0, MOST_PANELS);
            size = other.size;
            setting = other.setting;
        }

        private void insert(int place, int kind, int width, int itsBeats) {
            if (size >= MOST_PANELS) {
                return;
            }
            openGap(kinds, place, kind);
            openGap(widths, place, width);
            openGap(beats, place, itsBeats);
            size++;
        }

        private void remove(int panel) {
            if (!has(panel)) {
                return;
            }
            closeGap(kinds, panel);
            closeGap(widths, panel);
            closeGap(beats, panel);
            size--;
        }

        private void exchangeWithNext(int panel) {
            exchangeInRow(kinds, panel);
            exchangeInRow(widths, panel);
            exchangeInRow(beats, panel);
        }

        private static void openGap(int[] row, int place, int value) {
            for (int i = row.length - 1; i > place && i > 0; i--) {
                row[i] = row[i - 1];
            }
            write(row, place, value);
        }

        private static void closeGap(int[] row, int place) {
            if (place < 0) {
                return;
            }
            for (int i = place; i < row.length - 1; i++) {
                row[i] = row[i + 1];
            }
        }

        private static void exchangeInRow(int[] row, int place) {
            int held = read(row, place);
            write(row, place, read(row, place + 1));
            write(row, place + 1, held);
        }
    }

    /** Where a story's panels are set once they are poured, and what each page then bears. */
    private static final class Layout {
        private final int[] pages = new int[MOST_PANELS];
        private final int[] rows = new int[MOST_PANELS];
        private final int[] units = new int[MOST_PANELS];

        private final int[] pagePanels = new int[PAGES];
        private final int[] pageBeats = new int[PAGES];
        private final int[] pageFilled = new int[PAGES];
        private final int[] pageFirst = new int[PAGES];
        private final int[] pageBleeding = new int[PAGES];

        private int pageOfNow = 0;
        private int rowOfNow = 0;
        private int nextUnit = 0;

        private int used = 0;
        private int bearing = 0;
        private int filled = 0;
        private int leftOut = 0;

        private void pour(Story story) {
            clear();
            int panel = 0;
            while (panel < story.size && place(story, panel)) {
                panel++;
            }
            leftOut = story.size - panel;
            while (panel < story.size) {
                note(panel, NONE, NONE, NONE);
                panel++;
            }
        }

        private void clear() {
            for (int page = 0; page < PAGES; page++) {
                pagePanels[page] = 0;
                pageBeats[page] = 0;
                pageFilled[page] = 0;
                pageFirst[page] = 0;
                pageBleeding[page] = 0;
            }
            beginPage(0);
            used = 0;
            bearing = 0;
            filled = 0;
        }

        /** Answers whether the panel found its place: false if a page would be needed that is not there. */
        private boolean place(Story story, int panel) {
            int kind = read(story.kinds, panel);
            int beats = read(story.beats, panel);
            if (kind == SPLASH) {
                return placeOnWholePages(panel, beats, 1);
            }
            if (kind == SPREAD) {
                return placeOnWholePages(panel, beats, 2);
            }
            goOnIfTooManyBeats(beats, story.setting);
            return placeInRow(panel, kind == BLEEDING, read(story.widths, panel), beats);
        }

        private boolean placeOnWholePages(int panel, int beats, int taken) {
            int first = isBearing(pageOfNow) ? pageOfNow + 1 : pageOfNow;
            if (taken == 2 && isOnLeft(first)) {
                first++;
            }
            if (first + taken > PAGES) {
                return false;
            }
            note(panel, first, NONE, NONE);
            bear(first, panel, PAGE_UNITS, beats);
            if (taken == 2) {
                bear(first + 1, panel, PAGE_UNITS, 0);
            }
            beginPage(first + taken);
            return true;
        }

        private void goOnIfTooManyBeats(int beats, int setting) {
            if (isBearing(pageOfNow) && read(pageBeats, pageOfNow) + beats > setting) {
                beginPage(pageOfNow + 1);
            }
        }

        private boolean placeInRow(int panel, boolean bleeds, int width, int beats) {
            if (UNITS - nextUnit < width) {
                beginRow();
            }
            if (bleeds && !isOnLeft(pageOfNow) && nextUnit != 0) {
                beginRow();
            }
            if (pageOfNow >= PAGES) {
                return false;
            }
            int unit = bleeds && isOnLeft(pageOfNow) ? UNITS - width : nextUnit;
            note(panel, pageOfNow, rowOfNow, unit);
            bear(pageOfNow, panel, width, beats);
            if (bleeds) {
                write(pageBleeding, pageOfNow, read(pageBleeding, pageOfNow) + 1);
            }
            nextUnit = unit + width;
            return true;
        }

        private void beginRow() {
            nextUnit = 0;
            rowOfNow++;
            if (rowOfNow == ROWS) {
                rowOfNow = 0;
                pageOfNow++;
            }
        }

        private void beginPage(int page) {
            pageOfNow = page;
            rowOfNow = 0;
            nextUnit = 0;
        }

        private void note(int panel, int page, int row, int unit) {
            if (panel < 0 || panel >= MOST_PANELS) {
                return;
            }
            pages[panel] = page;
            rows[panel] = row;
            units[panel] = unit;
        }

        private void bear(int page, int panel, int unitsTaken, int beats) {
            if (page < 0 || page >= PAGES) {
                return;
            }
            if (pagePanels[page] == 0) {
                pageFirst[page] = panel;
                bearing++;
            }
            pagePanels[page]++;
            pageBeats[page] += beats;
            pageFilled[page] += unitsTaken;
            filled += unitsTaken;
            used = page + 1;
        }

        private boolean isBearing(int page) {
            return page >= 0 && page < PAGES && pagePanels[page] > 0;
        }

        private static boolean isOnLeft(int page) {
            return (page & 1) == 1;
        }

        private int numberOfPage(int page, int what) {
            switch (what) {
                case 0:
                    return read(pagePanels, page);
                case 1:
                    return read(pageBeats, page);
                case 2:
                    return PAGE_UNITS - read(pageFilled, page);
                case 3:
                    return isBearing(page) ? read(pageFirst, page) : NONE;
                case 4:
                    return page < used && !isBearing(page) ? 1 : 0;
                default:
                    return read(pageBleeding, page);
            }
        }

        private int emptyUnits() {
            return bearing * PAGE_UNITS - filled;
        }

        private int greatestBeats() {
            int greatest = 0;
            for (int page = 0; page < PAGES; page++) {
                greatest = Math.max(greatest, pageBeats[page]);
            }
            return greatest;
        }

        // Facing pages that are both not used differ by 0, so they need no test of their own.
        private int greatestDifference() {
            int greatest = 0;
            for (int page = 0; page + 1 < PAGES; page += 2) {
                greatest = Math.max(greatest, Math.abs(pageBeats[page] - pageBeats[page + 1]));
            }
            return greatest;
        }

        // One panel left out weighs more than all pages, and one page more than all empty units.
        private int cost() {
            return (leftOut * (PAGES + 1) + used) * (PAGES * PAGE_UNITS + 1) + emptyUnits();
        }
    }

    /** The saved states, the oldest first, in stories that are used again. */
    private static final class History {
        private final Story[] states = new Story[MOST_SAVED];
        private int size = 0;

        private History() {
            for (int i = 0; i < MOST_SAVED; i++) {
                states[i] = new Story();
            }
        }

        private void save(Story story) {
            if (size >= MOST_SAVED) {
                dropOldest();
            }
            Story room = storyAt(size);
            if (room != null) {
                room.copyFrom(story);
                size++;
            }
        }

        private void restoreLatest(Story story) {
            Story latest = storyAt(size - 1);
            if (latest != null) {
                story.copyFrom(latest);
                size--;
            }
        }

        private Story storyAt(int index) {
            return index >= 0 && index < MOST_SAVED ? states[index] : null;
        }

        // The oldest one's rows are used again for the state that is saved next.
        private void dropOldest() {
            Story oldest = states[0];
            for (int i = 0; i < MOST_SAVED - 1; i++) {
                states[i] = states[i + 1];
            }
            states[MOST_SAVED - 1] = oldest;
            size = MOST_SAVED - 1;
        }
    }

    /** The buffer, and what may follow in a story as a text. */
    private static final class Text {
        private final int[] codes = new int[MOST_CODES];
        private int length = 0;

        private void add(int code) {
            if (length >= 0 && length < MOST_CODES) {
                codes[length] = code;
                length++;
            }
        }

        private int indexOfError() {
            int awaited = AWAITS_KIND;
            for (int i = 0; i < length; i++) {
                awaited = awaitedBehind(awaited, read(codes, i));
                if (awaited == NONE) {
                    return i;
                }
            }
            return length;
        }

        private boolean isWhole() {
            int awaited = AWAITS_KIND;
            for (int i = 0; i < length; i++) {
                awaited = awaitedBehind(awaited, read(codes, i));
            }
            return length > 0 && awaited == AWAITS_KIND;
        }

        /** What a text awaits behind the character; NONE if the character is an error, or one came before. */
        private static int awaitedBehind(int awaited, int code) {
            switch (awaited) {
                case AWAITS_KIND:
                    return awaitedBehindKind(kindOf(code));
                case AWAITS_WIDTH:
                    return isWithin(code - '0', 1, MOST_WIDTH) ? AWAITS_BEATS : NONE;
                case AWAITS_BEATS:
                    return isWithin(code - '0', 1, MOST_BEATS) ? AWAITS_KIND : NONE;
                default:
                    return NONE;
            }
        }

        private static int awaitedBehindKind(int kind) {
            switch (kind) {
                case PLAIN:
                case BLEEDING:
                    return AWAITS_WIDTH;
                case SPLASH:
                case SPREAD:
                    return AWAITS_BEATS;
                default:
                    return NONE;
            }
        }

        private static int kindOf(int code) {
            switch (code) {
                case 'p':
                    return PLAIN;
                case 'b':
                    return BLEEDING;
                case 's':
                    return SPLASH;
                case 'd':
                    return SPREAD;
                default:
                    return NONE;
            }
        }
    }
}
