import java.util.ArrayList;
import java.util.Collections;
import java.util.List;

/** The document's words once more, in the plainest form, to compare the class with. */
final class Model {
    /** The posts of each column in their order, the ribbons, and what is counted. */
    static final class State {
        final List<List<Integer>> columns = new ArrayList<>();
        final List<int[]> ribbons = new ArrayList<>();
        int trimmed;

        State copy() {
            State copy = new State();
            for (List<Integer> column : columns) {
                copy.columns.add(new ArrayList<>(column));
            }
            for (int[] ribbon : ribbons) {
                copy.ribbons.add(ribbon.clone());
            }
            copy.trimmed = trimmed;
            return copy;
        }

        int place(int post) {
            return columns.get(post / 4).indexOf(post);
        }
    }

    private static final String PAIR = "([a-d][e-p]|[e-h][a-di-p]|[i-l][a-hm-p]|[m-p][a-l])";
    private static final String RIBBON = PAIR + "([1-9]|[1-4][0-9]|50)";
    private static final String DRAWING = RIBBON + "(;" + RIBBON + ")*";
    /** One of these completes each beginning of a drawing. */
    private static final String[] ENDINGS = {"", "1", "a1", "e1", "ae1"};

    private State now = new State();
    private final State[] slots = new State[2];
    private final List<State> saved = new ArrayList<>();
    private String buffer = "";

    Model() {
        for (int column = 0; column < 4; column++) {
            now.columns.add(new ArrayList<>());
            for (int number = 0; number < 4; number++) {
                now.columns.get(column).add(4 * column + number);
            }
        }
    }

    private void save() {
        saved.add(now.copy());
        if (saved.size() > 6) {
            saved.remove(0);
        }
    }

    private static void index(boolean fine) {
        if (!fine) {
            throw new IndexOutOfBoundsException();
        }
    }

    private static void argument(boolean fine) {
        if (!fine) {
            throw new IllegalArgumentException();
        }
    }

    private static void state(boolean fine) {
        if (!fine) {
            throw new IllegalStateException();
        }
    }

    private static boolean within(int number, int low, int high) {
        return number >= low && number <= high;
    }

    private static boolean on(int[] ribbon) {
        return ribbon[1] / 4 > ribbon[0] / 4;
    }

    // ---- the calls

    int ribbon(int from, int to, int width) {
        index(within(from, 0, 15) && within(to, 0, 15));
        argument(from / 4 != to / 4 && within(width, 1, 50));
        state(now.ribbons.size() < 20);
        save();
        now.ribbons.add(new int[] {from, to, width});
        return now.ribbons.size() - 1;
    }

    int widen(int ribbon, int width) {
        index(within(ribbon, 0, now.ribbons.size() - 1));
        argument(within(width, 0, 50));
        save();
        int before = now.ribbons.get(ribbon)[2];
        now.ribbons.get(ribbon)[2] = width;
        return before;
    }

    int remove(int ribbon) {
        index(within(ribbon, 0, now.ribbons.size() - 1));
        save();
        return now.ribbons.remove(ribbon)[2];
    }

    int swap(int post, int other) {
        int crossings = ifSwapped(post, other);
        save();
        exchange(now, post, other);
        return crossings;
    }

    int sweep() {
        save();
        for (int column = 1; column < 4; column++) {
            sweepColumn(column);
        }
        return crossings(now);
    }

    private void sweepColumn(int column) {
        List<Integer> stood = new ArrayList<>(now.columns.get(column));
        long[] means = new long[16];
        for (int post : stood) {
            long sum = 0;
            long number = 0;
            for (int[] ribbon : now.ribbons) {
                if (on(ribbon) && ribbon[1] == post) {
                    sum += now.place(ribbon[0]);
                    number++;
                }
            }
            // 232792560 is a multiple of 1 to 20, so that the means are exact.
            means[post] = number == 0 ? 232792560L * stood.indexOf(post) : 232792560L * sum / number;
        }
        stood.sort((one, other) -> Long.compare(means[one], means[other]));
        now.columns.set(column, stood);
    }

    int order(int column) {
        List<Integer> best = best(column);
        save();
        now.columns.set(column, best);
        return crossings(now);
    }

    int trim(int post) {
        index(within(post, 4, 11));
        save();
        return trim(now, post);
    }

    int settle() {
        save();
        return settle(now);
    }

    int append(int code) {
        argument(within(code, 33, 126));
        state(buffer.length() < 60);
        buffer += (char) code;
        return buffer.length();
    }

    int clearBuffer() {
        int length = buffer.length();
        buffer = "";
        return length;
    }

    int firstError() {
        for (int length = 1; length <= buffer.length(); length++) {
            boolean begins = false;
            for (String ending : ENDINGS) {
                begins |= (buffer.substring(0, length) + ending).matches(DRAWING);
            }
            if (!begins) {
                return length - 1;
            }
        }
        return buffer.length();
    }

    int load() {
        argument(buffer.matches(DRAWING));
        save();
        now.ribbons.clear();
        for (String told : buffer.split(";")) {
            int width = Integer.parseInt(told.substring(2));
            now.ribbons.add(new int[] {told.charAt(0) - 'a', told.charAt(1) - 'a', width});
        }
        buffer = "";
        return now.ribbons.size();
    }

    int keep(int slot) {
        argument(within(slot, 0, 1));
        slots[slot] = now.copy();
        return now.ribbons.size();
    }

    int goBack(int slot) {
        argument(within(slot, 0, 1));
        state(slots[slot] != null);
        save();
        now = slots[slot].copy();
        return now.ribbons.size();
    }

    int undo() {
        state(!saved.isEmpty());
        now = saved.remove(saved.size() - 1);
        return saved.size();
    }

    int postOf(int post, int what) {
        index(within(post, 0, 15));
        argument(within(what, 0, 7));
        int[] all = new int[8];
        all[0] = now.place(post);
        all[1] = side(now, post, 1);
        all[2] = side(now, post, 0);
        for (int[] ribbon : now.ribbons) {
            if (on(ribbon)) {
                all[3] += ribbon[1] == post ? 1 : 0;
                all[4] += ribbon[0] == post ? 1 : 0;
            } else {
                all[5] += ribbon[0] == post || ribbon[1] == post ? 1 : 0;
            }
        }
        all[6] = !within(post, 4, 11) || all[1] == all[2] ? 1 : 0;
        all[7] = Math.max(all[1], all[2]);
        return all[what];
    }

    int ribbonOf(int ribbon, int what) {
        index(within(ribbon, 0, now.ribbons.size() - 1));
        argument(within(what, 0, 4));
        int[] looked = now.ribbons.get(ribbon);
        if (what < 3) {
            return looked[what];
        }
        if (what == 3) {
            return on(looked) ? 1 : 0;
        }
        int number = 0;
        for (int[] other : now.ribbons) {
            number += cross(now, looked, other) ? 1 : 0;
        }
        return number;
    }

    int count(int what) {
        argument(within(what, 0, 9));
        switch (what) {
            case 0: return now.ribbons.size();
            case 1: return now.ribbons.stream().mapToInt(ribbon -> ribbon[2]).sum();
            case 2: return crossings(now);
            case 3: return crossingsByWidth();
            case 4: return pairs(now, 0);
            case 5: return uneven();
            case 6: return most(now.ribbons);
            case 7: return most(now.ribbons);
            case 8: return now.trimmed;
            default: return saved.size();
        }
    }

    int ifSwapped(int post, int other) {
        index(within(post, 0, 15) && within(other, 0, 15));
        argument(post != other && post / 4 == other / 4);
        State would = now.copy();
        exchange(would, post, other);
        return crossings(would);
    }

    int bestOrder(int column) {
        int told = 0;
        for (int post : best(column)) {
            told = 10 * told + post % 4;
        }
        return told;
    }

    int ifSettled() {
        return settle(now.copy());
    }

    int mainRibbon() {
        int found = -1;
        int least = 0;
        for (int ribbon = 0; ribbon < now.ribbons.size(); ribbon++) {
            List<int[]> others = new ArrayList<>(now.ribbons);
            others.remove(ribbon);
            int most = most(others);
            if (on(now.ribbons.get(ribbon)) && (found < 0 || most < least)) {
                found = ribbon;
                least = most;
            }
        }
        return found;
    }

    int height(int column) {
        index(within(column, 0, 3));
        int sum = 0;
        for (int post = 4 * column; post < 4 * column + 4; post++) {
            sum += postOf(post, 7);
        }
        return sum;
    }

    double throughShare() {
        int leaving = 0;
        for (int[] ribbon : now.ribbons) {
            leaving += on(ribbon) && ribbon[0] < 4 ? ribbon[2] : 0;
        }
        return leaving == 0 ? 1.0 : (double) count(6) / leaving;
    }

    long digest() {
        List<Long> values = new ArrayList<>();
        for (int what = 0; what < 10; what++) {
            values.add((long) count(what));
        }
        for (int post = 0; post < 16; post++) {
            for (int what = 0; what < 8; what++) {
                values.add((long) postOf(post, what));
            }
        }
        for (int ribbon = 0; ribbon < now.ribbons.size(); ribbon++) {
            for (int what = 0; what < 5; what++) {
                values.add((long) ribbonOf(ribbon, what));
            }
        }
        for (int column = 0; column < 4; column++) {
            values.add((long) bestOrder(column));
            values.add((long) height(column));
        }
        values.add((long) ifSwapped(0, 1));
        values.add((long) ifSwapped(5, 6));
        values.add((long) ifSwapped(8, 11));
        values.add((long) ifSettled());
        values.add((long) mainRibbon());
        values.add(Double.doubleToLongBits(throughShare()));
        values.add(slots[0] == null ? 0L : 1L);
        values.add(slots[1] == null ? 0L : 1L);
        values.add((long) buffer.length());
        buffer.chars().forEach(code -> values.add((long) code));
        long hash = 3527;
        for (long value : values) {
            hash = 31 * hash + value;
        }
        return hash;
    }

    // ---- the terms

    private static void exchange(State state, int post, int other) {
        List<Integer> column = state.columns.get(post / 4);
        Collections.swap(column, column.indexOf(post), column.indexOf(other));
    }

    private static boolean cross(State state, int[] one, int[] other) {
        if (!on(one) || !on(other) || one[0] / 4 != other[0] / 4 || one[1] / 4 != other[1] / 4) {
            return false;
        }
        int oneFrom = state.place(one[0]);
        int otherFrom = state.place(other[0]);
        int oneTo = state.place(one[1]);
        int otherTo = state.place(other[1]);
        return oneFrom < otherFrom && oneTo > otherTo || otherFrom < oneFrom && otherTo > oneTo;
    }

    private static int crossings(State state) {
        int sum = 0;
        for (int one = 0; one < state.ribbons.size(); one++) {
            for (int other = 0; other < one; other++) {
                int[] first = state.ribbons.get(one);
                int[] second = state.ribbons.get(other);
                sum += cross(state, first, second) ? Math.min(first[2], second[2]) : 0;
            }
        }
        return sum;
    }

    private static int pairs(State state, int width) {
        int number = 0;
        for (int one = 0; one < state.ribbons.size(); one++) {
            for (int other = 0; other < one; other++) {
                int[] first = state.ribbons.get(one);
                int[] second = state.ribbons.get(other);
                number += cross(state, first, second) && Math.min(first[2], second[2]) >= width ? 1 : 0;
            }
        }
        return number;
    }

    private int crossingsByWidth() {
        int sum = 0;
        for (int width = 1; width <= 50; width++) {
            sum += pairs(now, width);
        }
        return sum;
    }

    private List<Integer> best(int column) {
        index(within(column, 0, 3));
        List<List<Integer>> orders = new ArrayList<>();
        addOrders(orders, new ArrayList<>(), column);
        List<Integer> best = null;
        int least = 0;
        for (List<Integer> order : orders) {
            State would = now.copy();
            would.columns.set(column, order);
            int crossings = crossings(would);
            if (best == null || crossings < least) {
                best = order;
                least = crossings;
            }
        }
        return best;
    }

    private static void addOrders(List<List<Integer>> orders, List<Integer> begun, int column) {
        if (begun.size() == 4) {
            orders.add(new ArrayList<>(begun));
            return;
        }
        for (int post = 4 * column; post < 4 * column + 4; post++) {
            if (!begun.contains(post)) {
                begun.add(post);
                addOrders(orders, begun, column);
                begun.remove(begun.size() - 1);
            }
        }
    }

    private static int side(State state, int post, int end) {
        int sum = 0;
        for (int[] ribbon : state.ribbons) {
            sum += on(ribbon) && ribbon[end] == post ? ribbon[2] : 0;
        }
        return sum;
    }

    private int uneven() {
        int number = 0;
        for (int post = 4; post < 12; post++) {
            number += side(now, post, 0) != side(now, post, 1) ? 1 : 0;
        }
        return number;
    }

    private static int trim(State state, int post) {
        int steps = 0;
        while (side(state, post, 0) != side(state, post, 1)) {
            int end = side(state, post, 0) > side(state, post, 1) ? 0 : 1;
            int[] widest = null;
            for (int[] ribbon : state.ribbons) {
                if (on(ribbon) && ribbon[end] == post && (widest == null || ribbon[2] > widest[2])) {
                    widest = ribbon;
                }
            }
            widest[2]--;
            steps++;
        }
        state.trimmed += steps;
        return steps;
    }

    private static int settle(State state) {
        int sum = 0;
        boolean even = false;
        while (!even) {
            even = true;
            for (int post = 4; post < 12; post++) {
                int steps = trim(state, post);
                even &= steps == 0;
                sum += steps;
            }
        }
        return sum;
    }

    /** One at a time through a matrix of rooms, from 16 before the first column to 17 behind the last. */
    private static int most(List<int[]> ribbons) {
        int[][] room = new int[18][18];
        for (int post = 0; post < 4; post++) {
            room[16][post] = 2000;
            room[12 + post][17] = 2000;
        }
        for (int[] ribbon : ribbons) {
            room[ribbon[0]][ribbon[1]] += on(ribbon) ? ribbon[2] : 0;
        }
        int most = 0;
        while (push(room, 16, new boolean[18])) {
            most++;
        }
        return most;
    }

    private static boolean push(int[][] room, int at, boolean[] seen) {
        if (at == 17) {
            return true;
        }
        seen[at] = true;
        for (int next = 17; next >= 0; next--) {
            if (room[at][next] > 0 && !seen[next] && push(room, next, seen)) {
                room[at][next]--;
                room[next][at]++;
                return true;
            }
        }
        return false;
    }
}
