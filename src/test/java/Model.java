import java.util.ArrayList;
import java.util.List;

/**
 * The document told a second time, in the plainest way and apart from the program: a state is a
 * list of panels, each look pours it anew into a grid of all units, and everything is counted there.
 */
final class Model {
    static final int NONE = -1;

    record Panel(int kind, int width, int beats) {
    }

    record State(List<Panel> panels, int setting) {
    }

    /** The units of all pages, and where each panel is set. */
    static final class Poured {
        final int[][][] grid = new int[16][4][6];
        final int[][] places;
        final int[] beats = new int[16];
        int leftOut = 0;

        Poured(State state) {
            places = new int[state.panels().size()][];
            for (int[][] page : grid) {
                for (int[] row : page) {
                    java.util.Arrays.fill(row, NONE);
                }
            }
            int page = 0;
            int row = 0;
            int unit = 0;
            boolean full = false;
            for (int i = 0; i < places.length; i++) {
                Panel panel = state.panels().get(i);
                places[i] = new int[] {NONE, NONE, NONE};
                if (full) {
                    leftOut++;
                    continue;
                }
                if (panel.kind() == 2) {
                    if (bears(page)) {
                        page++;
                    }
                    if (page > 15) {
                        full = true;
                        leftOut++;
                        continue;
                    }
                    cover(page, i);
                    places[i][0] = page;
                    beats[page] = panel.beats();
                    page++;
                    row = 0;
                    unit = 0;
                } else if (panel.kind() == 3) {
                    while (bears(page) || page % 2 != 0) {
                        page++;
                    }
                    if (page > 14) {
                        full = true;
                        leftOut++;
                        continue;
                    }
                    cover(page, i);
                    cover(page + 1, i);
                    places[i][0] = page;
                    beats[page] = panel.beats();
                    page += 2;
                    row = 0;
                    unit = 0;
                } else {
                    boolean bleeds = panel.kind() == 1;
                    if (bears(page) && beats[page] + panel.beats() > state.setting()) {
                        page++;
                        row = 0;
                        unit = 0;
                    }
                    if (6 - unit < panel.width()) {
                        unit = 0;
                        row++;
                        if (row > 3) {
                            row = 0;
                            page++;
                        }
                    }
                    if (bleeds && page % 2 == 0 && unit != 0) {
                        unit = 0;
                        row++;
                        if (row > 3) {
                            row = 0;
                            page++;
                        }
                    }
                    if (page > 15) {
                        full = true;
                        leftOut++;
                        continue;
                    }
                    int first = bleeds && page % 2 == 1 ? 6 - panel.width() : unit;
                    places[i] = new int[] {page, row, first};
                    beats[page] += panel.beats();
                    for (int u = first; u < first + panel.width(); u++) {
                        grid[page][row][u] = i;
                    }
                    unit = first + panel.width();
                }
            }
        }

        private void cover(int page, int panel) {
            for (int[] row : grid[page]) {
                java.util.Arrays.fill(row, panel);
            }
        }

        boolean bears(int page) {
            return page < 16 && empty(page) < 24;
        }

        int empty(int page) {
            int empty = 0;
            for (int[] row : grid[page]) {
                for (int panel : row) {
                    empty += panel == NONE ? 1 : 0;
                }
            }
            return empty;
        }

        int used() {
            int used = 16;
            while (used > 0 && !bears(used - 1)) {
                used--;
            }
            return used;
        }

        int blank() {
            int blank = 0;
            for (int page = 0; page < used(); page++) {
                blank += bears(page) ? 0 : 1;
            }
            return blank;
        }

        int emptyUnits() {
            int empty = 0;
            for (int page = 0; page < 16; page++) {
                empty += bears(page) ? empty(page) : 0;
            }
            return empty;
        }

        List<Integer> panelsOn(int page) {
            List<Integer> found = new ArrayList<>();
            for (int[] row : grid[page]) {
                for (int panel : row) {
                    if (panel != NONE && !found.contains(panel)) {
                        found.add(panel);
                    }
                }
            }
            return found;
        }
    }

    State now = new State(List.of(), 30);
    final List<State> saved = new ArrayList<>();
    String buffer = "";

    private void save(State next) {
        saved.add(now);
        if (saved.size() > 6) {
            saved.remove(0);
        }
        now = next;
    }

    private Poured poured() {
        return new Poured(now);
    }

    private boolean has(int panel) {
        return panel >= 0 && panel < now.panels().size();
    }

    private static void index(boolean fine) {
        if (!fine) {
            throw new IndexOutOfBoundsException();
        }
    }

    private static void argument(boolean fine) {
        if (!fine) {
            throw new IllegalArgumentException();
        }
    }

    private static void state(boolean fine) {
        if (!fine) {
            throw new IllegalStateException();
        }
    }

    private static boolean in(int value, int least, int most) {
        return least <= value && value <= most;
    }

    int put(int at, int kind, int width, int beats) {
        index(in(at, 0, now.panels().size()));
        argument(in(kind, 0, 3) && in(width, 1, 6) && in(beats, 1, 9));
        state(now.panels().size() < 24);
        List<Panel> panels = new ArrayList<>(now.panels());
        panels.add(at, new Panel(kind, width, beats));
        save(new State(panels, now.setting()));
        return panels.size();
    }

    int take(int panel) {
        index(has(panel));
        List<Panel> panels = new ArrayList<>(now.panels());
        panels.remove(panel);
        save(new State(panels, now.setting()));
        return panels.size();
    }

    int change(int panel, int width, int beats) {
        index(has(panel));
        argument(in(width, 1, 6) && in(beats, 1, 9));
        save(withPanel(panel, width, beats));
        return poured().used();
    }

    private State withPanel(int panel, int width, int beats) {
        List<Panel> panels = new ArrayList<>(now.panels());
        panels.set(panel, new Panel(panels.get(panel).kind(), width, beats));
        return new State(panels, now.setting());
    }

    int set(int beats) {
        argument(in(beats, 9, 60));
        int before = now.setting();
        save(new State(now.panels(), beats));
        return before;
    }

    int append(int code) {
        argument(in(code, 33, 126));
        state(buffer.length() < 60);
        buffer += (char) code;
        return buffer.length();
    }

    int clearBuffer() {
        int before = buffer.length();
        buffer = "";
        return before;
    }

    int firstError() {
        for (int i = 0; i < buffer.length(); i++) {
            if (!buffer.substring(0, i + 1).matches("([pb][1-6][1-9]|[sd][1-9])*([pb][1-6]?|[sd])?")) {
                return i;
            }
        }
        return buffer.length();
    }

    int story() {
        argument(buffer.matches("([pb][1-6][1-9]|[sd][1-9])+"));
        List<Panel> panels = new ArrayList<>(now.panels());
        int come = 0;
        for (String rest = buffer; !rest.isEmpty() && panels.size() < 24; come++) {
            int kind = "pbsd".indexOf(rest.charAt(0));
            int last = kind < 2 ? 2 : 1;
            int width = kind < 2 ? rest.charAt(1) - '0' : 6;
            panels.add(new Panel(kind, width, rest.charAt(last) - '0'));
            rest = rest.substring(last + 1);
        }
        save(new State(panels, now.setting()));
        buffer = "";
        return come;
    }

    int undo() {
        state(!saved.isEmpty());
        now = saved.remove(saved.size() - 1);
        return saved.size();
    }

    int panel(int panel, int what) {
        index(has(panel));
        argument(in(what, 0, 5));
        Panel its = now.panels().get(panel);
        return switch (what) {
            case 0 -> its.kind();
            case 1 -> its.width();
            case 2 -> its.beats();
            default -> poured().places[panel][what - 3];
        };
    }

    int page(int page, int what) {
        index(in(page, 0, 15));
        argument(in(what, 0, 5));
        Poured poured = poured();
        List<Integer> panels = poured.panelsOn(page);
        return switch (what) {
            case 0 -> panels.size();
            case 1 -> poured.beats[page];
            case 2 -> poured.empty(page);
            case 3 -> panels.stream().min(Integer::compare).orElse(NONE);
            case 4 -> panels.isEmpty() && page < poured.used() ? 1 : 0;
            default -> (int) panels.stream().filter(p -> now.panels().get(p).kind() == 1).count();
        };
    }

    int at(int page, int row, int unit) {
        index(in(page, 0, 15) && in(row, 0, 3) && in(unit, 0, 5));
        return poured().grid[page][row][unit];
    }

    int count(int what) {
        argument(in(what, 0, 8));
        Poured poured = poured();
        int most = 0;
        int unlike = 0;
        for (int page = 0; page < 16; page++) {
            most = Math.max(most, poured.beats[page]);
            if (page / 2 * 2 < poured.used()) {
                unlike = Math.max(unlike, Math.abs(poured.beats[page] - poured.beats[page ^ 1]));
            }
        }
        return switch (what) {
            case 0 -> now.panels().size();
            case 1 -> poured.used();
            case 2 -> poured.blank();
            case 3 -> poured.leftOut;
            case 4 -> most;
            case 5 -> poured.emptyUnits();
            case 6 -> unlike;
            case 7 -> now.setting();
            default -> saved.size();
        };
    }

    int ifExchanged(int panel, int what) {
        index(has(panel) && panel + 1 < now.panels().size());
        argument(in(what, 0, 1));
        List<Panel> panels = new ArrayList<>(now.panels());
        panels.add(panel, panels.remove(panel + 1));
        Poured poured = new Poured(new State(panels, now.setting()));
        return what == 0 ? poured.used() : poured.emptyUnits();
    }

    int leastSetting() {
        Poured poured = poured();
        int setting = 9;
        while (true) {
            Poured other = new Poured(new State(now.panels(), setting));
            if (other.used() <= poured.used() && other.leftOut <= poured.leftOut) {
                return setting;
            }
            setting++;
        }
    }

    int bestWidth(int panel) {
        index(has(panel));
        int best = NONE;
        Poured least = null;
        for (int width = 1; width <= 6; width++) {
            Poured other = new Poured(withPanel(panel, width, now.panels().get(panel).beats()));
            if (least == null || compare(other, least) < 0) {
                best = width;
                least = other;
            }
        }
        return best;
    }

    private static int compare(Poured one, Poured other) {
        if (one.leftOut != other.leftOut) {
            return one.leftOut - other.leftOut;
        }
        if (one.used() != other.used()) {
            return one.used() - other.used();
        }
        return one.emptyUnits() - other.emptyUnits();
    }

    double fullness() {
        Poured poured = poured();
        int all = (poured.used() - poured.blank()) * 24;
        return all == 0 ? 1.0 : (double) (all - poured.emptyUnits()) / all;
    }

    long digest() {
        List<Long> values = new ArrayList<>();
        for (int what = 0; what <= 8; what++) {
            values.add((long) count(what));
        }
        for (int panel = 0; panel < now.panels().size(); panel++) {
            for (int what = 0; what <= 5; what++) {
                values.add((long) panel(panel, what));
            }
            values.add((long) bestWidth(panel));
            if (panel + 1 < now.panels().size()) {
                values.add((long) ifExchanged(panel, 0));
                values.add((long) ifExchanged(panel, 1));
            }
        }
        for (int page = 0; page < 16; page++) {
            for (int what = 0; what <= 5; what++) {
                values.add((long) page(page, what));
            }
            for (int[] row : poured().grid[page]) {
                for (int panel : row) {
                    values.add((long) panel);
                }
            }
        }
        values.add((long) leastSetting());
        values.add(Double.doubleToLongBits(fullness()));
        values.add((long) buffer.length());
        buffer.chars().forEach(code -> values.add((long) code));
        long hash = 3433;
        for (long value : values) {
            hash = 31 * hash + value;
        }
        return hash;
    }
}
