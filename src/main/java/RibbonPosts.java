import java.util.Arrays;

/**
 * Ribbons between posts that stand in columns: their orders, crossings and
 * widths, and how much can go through from the first column to the last one.
 * The document in ../shared/DOC.md says what each call promises.
 */
public final class RibbonPosts {
    public static final int NONE = -1;

    private static final int COLUMNS = 4;
    private static final int COLUMN_POSTS = 4;
    private static final int POSTS = 16;
    private static final int FIRST_INNER = 4;
    private static final int AFTER_INNER = 12;
    private static final int MOST_RIBBONS = 20;
    private static final int WIDEST = 50;
    private static final int MOST_CODES = 60;
    private static final int SLOTS = 2;
    private static final int MOST_SAVED = 6;
    /** Far above all sums and turns that 20 ribbons of the width 50 allow. */
    private static final int MANY = 1000000;

    private final Drawing drawing = new Drawing();
    /** Holds the drawing that would be, for the calls that change nothing. */
    private final Drawing trial = new Drawing();
    /** An empty slot holds null. */
    private final Drawing[] slots = new Drawing[SLOTS];
    private final Past past = new Past();
    private final Text text = new Text();
    private final Ahead ahead = new Ahead();
    private final Orders orders = new Orders();
    private final Through through = new Through();

    public RibbonPosts() {
    }

    // ---- ribbons

    public int ribbon(int from, int to, int width)
            throws IndexOutOfBoundsException, IllegalArgumentException, IllegalStateException {
        checkPost(from);
        checkPost(to);
        if (columnOf(from) == columnOf(to)) {
            throw new IllegalArgumentException("both posts are in one column");
        }
        if (width < 1 || width > WIDEST) {
            throw new IllegalArgumentException("the width is not 1 to 50");
        }
        if (drawing.ribbons >= MOST_RIBBONS) {
            throw new IllegalStateException("there are 20 ribbons");
        }
        past.save(drawing);
        drawing.addRibbon(from, to, width);
        return drawing.ribbons - 1;
    }

    public int widen(int ribbon, int width)
            throws IndexOutOfBoundsException, IllegalArgumentException {
        checkRibbon(ribbon);
        if (width < 0 || width > WIDEST) {
            throw new IllegalArgumentException("the width is not 0 to 50");
        }
        past.save(drawing);
        int before = drawing.widthOf(ribbon);
        drawing.setWidth(ribbon, width);
        return before;
    }

    public int remove(int ribbon) throws IndexOutOfBoundsException {
        checkRibbon(ribbon);
        past.save(drawing);
        int width = drawing.widthOf(ribbon);
        drawing.dropRibbon(ribbon);
        return width;
    }

    // ---- orders

    public int swap(int post, int other)
            throws IndexOutOfBoundsException, IllegalArgumentException {
        checkPair(post, other);
        past.save(drawing);
        drawing.exchangePlaces(post, other);
        return drawing.allCrossings();
    }

    public int sweep() {
        past.save(drawing);
        orders.sweepColumns(drawing);
        return drawing.allCrossings();
    }

    public int order(int column) throws IndexOutOfBoundsException {
        checkColumn(column);
        past.save(drawing);
        orders.findBest(drawing, column);
        orders.putBest(drawing, column);
        return drawing.allCrossings();
    }

    // ---- widths

    public int trim(int post) throws IndexOutOfBoundsException {
        if (!isInner(post)) {
            throw new IndexOutOfBoundsException("there is no such inner post");
        }
        past.save(drawing);
        return drawing.trimPost(post);
    }

    public int settle() {
        past.save(drawing);
        return drawing.trimAll();
    }

    // ---- texts, snapshots

    public int append(int code) throws IllegalArgumentException, IllegalStateException {
        if (code < 33 || code > 126) {
            throw new IllegalArgumentException("the code is not 33 to 126");
        }
        if (text.length >= MOST_CODES) {
            throw new IllegalStateException("the buffer has 60 characters");
        }
        text.addCode(code);
        return text.length;
    }

    public int clearBuffer() {
        int length = text.length;
        text.empty();
        return length;
    }

    public int firstError() {
        return text.firstWrong();
    }

    public int load() throws IllegalArgumentException {
        if (!text.tellsDrawing()) {
            throw new IllegalArgumentException("the buffer does not tell a drawing");
        }
        past.save(drawing);
        text.drawInto(drawing);
        text.empty();
        return drawing.ribbons;
    }

    public int keep(int slot) throws IllegalArgumentException {
        checkSlot(slot);
        Drawing snapshot = slots[slot];
        if (snapshot == null) {
            snapshot = new Drawing();
            slots[slot] = snapshot;
        }
        snapshot.copyFrom(drawing);
        return drawing.ribbons;
    }

    public int goBack(int slot) throws IllegalArgumentException, IllegalStateException {
        checkSlot(slot);
        Drawing snapshot = slots[slot];
        if (snapshot == null) {
            throw new IllegalStateException("there is no snapshot in the slot");
        }
        past.save(drawing);
        drawing.copyFrom(snapshot);
        return drawing.ribbons;
    }

    public int undo() throws IllegalStateException {
        if (past.held == 0) {
            throw new IllegalStateException("there is no saved state");
        }
        past.restore(drawing);
        return past.held;
    }

    // ---- looks; nothing is changed

    public int postOf(int post, int what)
            throws IndexOutOfBoundsException, IllegalArgumentException {
        checkPost(post);
        switch (what) {
            case 0:
                return drawing.placeOf(post);
            case 1:
                return drawing.comesIn(post);
            case 2:
                return drawing.leaves(post);
            case 3:
                return drawing.ribbonsTo(post);
            case 4:
                return drawing.ribbonsFrom(post);
            case 5:
                return drawing.ribbonsBack(post);
            case 6:
                return isInner(post) && drawing.surplusOf(post) != 0 ? 0 : 1;
            case 7:
                return Math.max(drawing.comesIn(post), drawing.leaves(post));
            default:
                throw new IllegalArgumentException("a post has the properties 0 to 7");
        }
    }

    public int ribbonOf(int ribbon, int what)
            throws IndexOutOfBoundsException, IllegalArgumentException {
        checkRibbon(ribbon);
        switch (what) {
            case 0:
                return drawing.fromOf(ribbon);
            case 1:
                return drawing.toOf(ribbon);
            case 2:
                return drawing.widthOf(ribbon);
            case 3:
                return drawing.goesOn(ribbon) ? 1 : 0;
            case 4:
                return drawing.ribbonsAcross(ribbon);
            default:
                throw new IllegalArgumentException("a ribbon has the properties 0 to 4");
        }
    }

    public int count(int what) throws IllegalArgumentException {
        switch (what) {
            case 0:
                return drawing.ribbons;
            case 1:
                return drawing.allWidths();
            case 2:
                return drawing.allCrossings();
            case 3:
                return ahead.allCrossings(drawing);
            case 4:
                return drawing.crossingPairs();
            case 5:
                return drawing.unevenPosts();
            case 6:
                return through.mostByWays(drawing);
            case 7:
                return through.mostByCuts(drawing);
            case 8:
                return drawing.trimmed;
            case 9:
                return past.held;
            default:
                throw new IllegalArgumentException("there are the numbers 0 to 9");
        }
    }

    // ---- what would be; nothing is changed

    public int ifSwapped(int post, int other)
            throws IndexOutOfBoundsException, IllegalArgumentException {
        checkPair(post, other);
        trial.copyFrom(drawing);
        trial.exchangePlaces(post, other);
        return trial.allCrossings();
    }

    public int bestOrder(int column) throws IndexOutOfBoundsException {
        checkColumn(column);
        orders.findBest(drawing, column);
        return orders.tellBest();
    }

    public int ifSettled() {
        trial.copyFrom(drawing);
        return trial.trimAll();
    }

    public int mainRibbon() {
        return through.ribbonThatMatters(drawing);
    }

    public int height(int column) throws IndexOutOfBoundsException {
        checkColumn(column);
        int sum = 0;
        for (int number = 0; number < COLUMN_POSTS; number++) {
            sum += postOf(column * COLUMN_POSTS + number, 7);
        }
        return sum;
    }

    public double throughShare() {
        int leaving = 0;
        for (int post = 0; post < COLUMN_POSTS; post++) {
            leaving += drawing.leaves(post);
        }
        if (leaving == 0) {
            return 1.0;
        }
        return (double) through.mostByWays(drawing) / (double) leaving;
    }

    public long digest() {
        long hash = 3527L;
        for (int what = 0; what <= 9; what++) {
            hash = mixed(hash, count(what));
        }
        hash = withPosts(hash);
        hash = withRibbons(hash);
        for (int column = 0; column < COLUMNS; column++) {
            hash = mixed(hash, bestOrder(column));
            hash = mixed(hash, height(column));
        }
        hash = mixed(hash, ifSwapped(0, 1));
        hash = mixed(hash, ifSwapped(5, 6));
        hash = mixed(hash, ifSwapped(8, 11));
        hash = mixed(hash, ifSettled());
        hash = mixed(hash, mainRibbon());
        hash = mixed(hash, bitsOfShare(throughShare()));
        for (int slot = 0; slot < SLOTS; slot++) {
            hash = mixed(hash, slots[slot] == null ? 0L : 1L);
        }
        return withText(hash);
    }

    private long withPosts(long start) {
        long hash = start;
        for (int post = 0; post < POSTS; post++) {
            for (int what = 0; what <= 7; what++) {
                hash = mixed(hash, postOf(post, what));
            }
        }
        return hash;
    }

    private long withRibbons(long start) {
        long hash = start;
        for (int ribbon = 0; ribbon < drawing.ribbons; ribbon++) {
            for (int what = 0; what <= 4; what++) {
                hash = mixed(hash, ribbonOf(ribbon, what));
            }
        }
        return hash;
    }

    private long withText(long start) {
        long hash = mixed(start, text.length);
        for (int index = 0; index < text.length; index++) {
            hash = mixed(hash, text.codeAt(index));
        }
        return hash;
    }

    private static long mixed(long hash, long value) {
        return 31L * hash + value;
    }

    /**
     * The bits of a double from 0.0 to 1.0, put together by hand, since the
     * rules of the language leave out Double.doubleToLongBits. Doubling is
     * exact, so the share comes to stand in 1.0 to 2.0 without loss.
     */
    private static long bitsOfShare(double share) {
        if (share <= 0.0) {
            return 0L;
        }
        double scaled = share;
        long exponent = 1023L;
        for (int step = 1; step < 1023 && scaled < 1.0; step++) {
            scaled = scaled * 2.0;
            exponent--;
        }
        return (exponent << 52) + (long) ((scaled - 1.0) * 4503599627370496.0);
    }

    private static int columnOf(int post) {
        return post / COLUMN_POSTS;
    }

    private static boolean isPost(int post) {
        return post >= 0 && post < POSTS;
    }

    private static boolean isInner(int post) {
        return post >= FIRST_INNER && post < AFTER_INNER;
    }

    private static void checkPost(int post) {
        if (!isPost(post)) {
            throw new IndexOutOfBoundsException("there is no such post");
        }
    }

    private static void checkPair(int post, int other) {
        checkPost(post);
        checkPost(other);
        if (post == other) {
            throw new IllegalArgumentException("both posts are the same");
        }
        if (columnOf(post) != columnOf(other)) {
            throw new IllegalArgumentException("the posts are not in one column");
        }
    }

    private static void checkColumn(int column) {
        if (column < 0 || column >= COLUMNS) {
            throw new IndexOutOfBoundsException("there is no such column");
        }
    }

    private static void checkSlot(int slot) {
        if (slot < 0 || slot >= SLOTS) {
            throw new IllegalArgumentException("the slot is not 0 or 1");
        }
    }

    private void checkRibbon(int ribbon) {
        if (!drawing.hasRibbon(ribbon)) {
            throw new IndexOutOfBoundsException("there is no such ribbon");
        }
    }

    /** All that a snapshot or a saved state holds. */
    private static final class Drawing {
        private final int[] places = new int[POSTS];
        private final int[] froms = new int[MOST_RIBBONS];
        private final int[] tos = new int[MOST_RIBBONS];
        private final int[] widths = new int[MOST_RIBBONS];
        private int ribbons;
        private int trimmed;

        Drawing() {
            for (int post = 0; post < POSTS; post++) {
                places[post] = post % COLUMN_POSTS;
            }
        }

        void copyFrom(Drawing other) {
            if (other == null) {
                return;
            }
            System.arraycopy(other.places, 0, places, 0, POSTS);
            System.arraycopy(other.froms, 0, froms, 0, MOST_RIBBONS);
            System.arraycopy(other.tos, 0, tos, 0, MOST_RIBBONS);
            System.arraycopy(other.widths, 0, widths, 0, MOST_RIBBONS);
            ribbons = other.ribbons;
            trimmed = other.trimmed;
        }

        boolean hasRibbon(int ribbon) {
            return ribbon >= 0 && ribbon < ribbons && ribbon < MOST_RIBBONS;
        }

        void addRibbon(int from, int to, int width) {
            if (ribbons < 0 || ribbons >= MOST_RIBBONS) {
                return;
            }
            froms[ribbons] = from;
            tos[ribbons] = to;
            widths[ribbons] = width;
            ribbons++;
        }

        void dropRibbon(int ribbon) {
            if (!hasRibbon(ribbon)) {
                return;
            }
            for (int next = ribbon + 1; next < ribbons && next < MOST_RIBBONS; next++) {
                froms[next - 1] = froms[next];
                tos[next - 1] = tos[next];
                widths[next - 1] = widths[next];
            }
            ribbons--;
        }

        int placeOf(int post) {
            return post >= 0 && post < POSTS ? places[post] : 0;
        }

        void setPlace(int post, int place) {
            if (isPost(post)) {
                places[post] = place;
            }
        }

        void exchangePlaces(int post, int other) {
            int place = placeOf(post);
            setPlace(post, placeOf(other));
            setPlace(other, place);
        }

        int postAt(int column, int place) {
            int first = column * COLUMN_POSTS;
            for (int post = first; post < first + COLUMN_POSTS; post++) {
                if (placeOf(post) == place) {
                    return post;
                }
            }
            return NONE;
        }

        int fromOf(int ribbon) {
            return ribbon >= 0 && ribbon < MOST_RIBBONS ? froms[ribbon] : 0;
        }

        int toOf(int ribbon) {
            return ribbon >= 0 && ribbon < MOST_RIBBONS ? tos[ribbon] : 0;
        }

        int widthOf(int ribbon) {
            return ribbon >= 0 && ribbon < MOST_RIBBONS ? widths[ribbon] : 0;
        }

        void setWidth(int ribbon, int width) {
            if (hasRibbon(ribbon)) {
                widths[ribbon] = width;
            }
        }

        boolean goesOn(int ribbon) {
            return ribbon >= 0 && ribbon < MOST_RIBBONS
                    && tos[ribbon] / COLUMN_POSTS > froms[ribbon] / COLUMN_POSTS;
        }

        /** Tells if the ribbon goes on, between just these columns. */
        boolean joins(int ribbon, int column, int later) {
            return column < later && columnOf(fromOf(ribbon)) == column
                    && columnOf(toOf(ribbon)) == later;
        }

        boolean cross(int one, int other) {
            int from = fromOf(one);
            int to = toOf(one);
            if (!joins(other, columnOf(from), columnOf(to))) {
                return false;
            }
            int begins = placeOf(from) - placeOf(fromOf(other));
            int ends = placeOf(to) - placeOf(toOf(other));
            return begins < 0 && ends > 0 || begins > 0 && ends < 0;
        }

        int allWidths() {
            int sum = 0;
            for (int ribbon = 0; ribbon < ribbons; ribbon++) {
                sum += widthOf(ribbon);
            }
            return sum;
        }

        int allCrossings() {
            int sum = 0;
            for (int one = 0; one < ribbons; one++) {
                for (int other = one + 1; other < ribbons; other++) {
                    if (cross(one, other)) {
                        sum += Math.min(widthOf(one), widthOf(other));
                    }
                }
            }
            return sum;
        }

        int ribbonsAcross(int ribbon) {
            int number = 0;
            for (int other = 0; other < ribbons; other++) {
                if (cross(ribbon, other)) {
                    number++;
                }
            }
            return number;
        }

        int crossingPairs() {
            int number = 0;
            for (int ribbon = 0; ribbon < ribbons; ribbon++) {
                number += ribbonsAcross(ribbon);
            }
            return number / 2;
        }

        int comesIn(int post) {
            int sum = 0;
            for (int ribbon = 0; ribbon < ribbons; ribbon++) {
                if (toOf(ribbon) == post && goesOn(ribbon)) {
                    sum += widthOf(ribbon);
                }
            }
            return sum;
        }

        int leaves(int post) {
            int sum = 0;
            for (int ribbon = 0; ribbon < ribbons; ribbon++) {
                if (fromOf(ribbon) == post && goesOn(ribbon)) {
                    sum += widthOf(ribbon);
                }
            }
            return sum;
        }

        int ribbonsTo(int post) {
            int number = 0;
            for (int ribbon = 0; ribbon < ribbons; ribbon++) {
                if (toOf(ribbon) == post && goesOn(ribbon)) {
                    number++;
                }
            }
            return number;
        }

        int ribbonsFrom(int post) {
            int number = 0;
            for (int ribbon = 0; ribbon < ribbons; ribbon++) {
                if (fromOf(ribbon) == post && goesOn(ribbon)) {
                    number++;
                }
            }
            return number;
        }

        int ribbonsBack(int post) {
            int number = 0;
            for (int ribbon = 0; ribbon < ribbons; ribbon++) {
                boolean touches = fromOf(ribbon) == post || toOf(ribbon) == post;
                if (touches && !goesOn(ribbon)) {
                    number++;
                }
            }
            return number;
        }

        /** How much more comes in than leaves; less than 0 if more leaves. */
        int surplusOf(int post) {
            return comesIn(post) - leaves(post);
        }

        int unevenPosts() {
            int number = 0;
            for (int post = FIRST_INNER; post < AFTER_INNER; post++) {
                if (surplusOf(post) != 0) {
                    number++;
                }
            }
            return number;
        }

        /** Each step takes 1 from the greater side, so their number is known. */
        int trimPost(int post) {
            int surplus = surplusOf(post);
            int steps = Math.abs(surplus);
            for (int step = 0; step < steps; step++) {
                int ribbon = widestAt(post, surplus > 0);
                setWidth(ribbon, widthOf(ribbon) - 1);
            }
            trimmed += steps;
            return steps;
        }

        int widestAt(int post, boolean coming) {
            int widest = NONE;
            for (int ribbon = 0; ribbon < ribbons; ribbon++) {
                int end = coming ? toOf(ribbon) : fromOf(ribbon);
                boolean wider = widest == NONE || widthOf(ribbon) > widthOf(widest);
                if (end == post && wider && goesOn(ribbon)) {
                    widest = ribbon;
                }
            }
            return widest;
        }

        /** Goes on as long as a turn trims; each turn but the last trims 1 or more. */
        int trimAll() {
            int sum = 0;
            for (int turn = 0; turn < MANY; turn++) {
                int before = sum;
                for (int post = FIRST_INNER; post < AFTER_INNER; post++) {
                    sum += trimPost(post);
                }
                if (sum == before) {
                    break;
                }
            }
            return sum;
        }
    }

    /** The saved states, in a ring whose rows are made once and used again. */
    private static final class Past {
        private final Drawing[] states = new Drawing[MOST_SAVED];
        private int oldest;
        private int held;

        void save(Drawing drawing) {
            int index = (oldest + held) % MOST_SAVED;
            if (index < 0 || index >= MOST_SAVED) {
                return;
            }
            Drawing state = states[index];
            if (state == null) {
                state = new Drawing();
                states[index] = state;
            }
            state.copyFrom(drawing);
            if (held < MOST_SAVED) {
                held++;
            } else {
                oldest = (oldest + 1) % MOST_SAVED;
            }
        }

        void restore(Drawing drawing) {
            if (held <= 0 || drawing == null) {
                return;
            }
            held--;
            int index = (oldest + held) % MOST_SAVED;
            if (index >= 0 && index < MOST_SAVED) {
                drawing.copyFrom(states[index]);
            }
        }
    }

    /** The buffer, and the drawing that it tells. */
    private static final class Text {
        private static final int WRONG = 0;
        private static final int BEGIN = 1;
        private static final int FROM_READ = 2;
        private static final int TO_READ = 3;
        /** A first digit 1 to 4: each digit may follow. */
        private static final int LOW_DIGIT_READ = 4;
        /** A first digit 5: only a 0 may follow. */
        private static final int FIVE_READ = 5;
        private static final int WIDTH_READ = 6;

        private final int[] codes = new int[MOST_CODES];
        private int length;

        void empty() {
            length = 0;
        }

        void addCode(int code) {
            if (length >= 0 && length < MOST_CODES) {
                codes[length] = code;
                length++;
            }
        }

        int codeAt(int index) {
            return index >= 0 && index < length && index < MOST_CODES ? codes[index] : 0;
        }

        int firstWrong() {
            int stage = BEGIN;
            for (int index = 0; index < length; index++) {
                stage = stageAfter(stage, index);
                if (stage == WRONG) {
                    return index;
                }
            }
            return length;
        }

        /** A beginning of a drawing tells a whole one if and only if it ends in a width. */
        boolean tellsDrawing() {
            return length > 0 && isDigit(codeAt(length - 1)) && firstWrong() == length;
        }

        int stageAfter(int stage, int index) {
            int code = codeAt(index);
            switch (stage) {
                case BEGIN:
                    return isPostLetter(code) ? FROM_READ : WRONG;
                case FROM_READ:
                    return isOtherColumn(code, codeAt(index - 1)) ? TO_READ : WRONG;
                case TO_READ:
                    return stageAfterFirstDigit(code);
                case LOW_DIGIT_READ:
                    return isDigit(code) ? WIDTH_READ : stageAfterWidth(code);
                case FIVE_READ:
                    return code == '0' ? WIDTH_READ : stageAfterWidth(code);
                case WIDTH_READ:
                    return stageAfterWidth(code);
                default:
                    return WRONG;
            }
        }

        static int stageAfterFirstDigit(int code) {
            if (!isDigit(code) || code == '0') {
                return WRONG;
            }
            if (code < '5') {
                return LOW_DIGIT_READ;
            }
            return code == '5' ? FIVE_READ : WIDTH_READ;
        }

        static int stageAfterWidth(int code) {
            return code == ';' ? BEGIN : WRONG;
        }

        static boolean isDigit(int code) {
            return code >= '0' && code <= '9';
        }

        static boolean isPostLetter(int code) {
            return code >= 'a' && code <= 'p';
        }

        static boolean isOtherColumn(int code, int before) {
            return isPostLetter(code) && columnOf(code - 'a') != columnOf(before - 'a');
        }

        /** Puts the ribbons of a text that tells a drawing in place of all. */
        void drawInto(Drawing drawing) {
            drawing.ribbons = 0;
            int from = NONE;
            int to = NONE;
            int width = 0;
            for (int index = 0; index < length; index++) {
                int code = codeAt(index);
                if (code == ';') {
                    drawing.addRibbon(from, to, width);
                    from = NONE;
                    width = 0;
                } else if (isDigit(code)) {
                    width = width * 10 + code - '0';
                } else if (from == NONE) {
                    from = code - 'a';
                } else {
                    to = code - 'a';
                }
            }
            drawing.addRibbon(from, to, width);
        }
    }

    /** Tells what all crossings count, width by width, by counting what stands ahead. */
    private static final class Ahead {
        /** Of the ribbons between two columns, in this order: 4 * the place of the begin + that of the end. */
        private final int[] ranks = new int[MOST_RIBBONS];
        private final int[] widths = new int[MOST_RIBBONS];
        private int size;
        /** For each place how many ribbons that came so far end there. */
        private final int[] ending = new int[COLUMN_POSTS];

        int allCrossings(Drawing drawing) {
            int sum = 0;
            for (int column = 0; column < COLUMNS; column++) {
                for (int later = column + 1; later < COLUMNS; later++) {
                    gather(drawing, column, later);
                    for (int width = 1; width <= WIDEST && size > 1; width++) {
                        sum += crossingsFrom(width);
                    }
                }
            }
            return sum;
        }

        void gather(Drawing drawing, int column, int later) {
            size = 0;
            for (int ribbon = 0; ribbon < drawing.ribbons; ribbon++) {
                if (drawing.joins(ribbon, column, later)) {
                    int begin = drawing.placeOf(drawing.fromOf(ribbon));
                    int end = drawing.placeOf(drawing.toOf(ribbon));
                    putIn(COLUMN_POSTS * begin + end, drawing.widthOf(ribbon));
                }
            }
        }

        void putIn(int rank, int width) {
            if (size < 0 || size >= MOST_RIBBONS) {
                return;
            }
            int index = size;
            while (index > 0 && ranks[index - 1] > rank) {
                ranks[index] = ranks[index - 1];
                widths[index] = widths[index - 1];
                index--;
            }
            ranks[index] = rank;
            widths[index] = width;
            size++;
        }

        /** Of ribbons with one begin none counts another one: their ends ascend. */
        int crossingsFrom(int width) {
            Arrays.fill(ending, 0);
            int sum = 0;
            for (int index = 0; index < size && index < MOST_RIBBONS; index++) {
                int end = ranks[index] % COLUMN_POSTS;
                if (widths[index] >= width && end >= 0) {
                    for (int place = end + 1; place < COLUMN_POSTS; place++) {
                        sum += ending[place];
                    }
                    ending[end]++;
                }
            }
            return sum;
        }
    }

    /** Orders of the posts of a column: by the means of neighbours, and the best one. */
    private static final class Orders {
        /** The mean of each post of a column is sums / numbers, kept as a fraction. */
        private final int[] sums = new int[COLUMN_POSTS];
        private final int[] numbers = new int[COLUMN_POSTS];
        /** The numbers in the column of its posts, by place. */
        private final int[] row = new int[COLUMN_POSTS];
        private final int[] best = new int[COLUMN_POSTS];
        /** At 4 * a + b: what crossings count as long as the post a stands before b. */
        private final int[] costs = new int[COLUMN_POSTS * COLUMN_POSTS];

        void sweepColumns(Drawing drawing) {
            for (int column = 1; column < COLUMNS; column++) {
                findMeans(drawing, column);
                readRow(drawing, column);
                sortRow();
                for (int place = 0; place < COLUMN_POSTS; place++) {
                    drawing.setPlace(column * COLUMN_POSTS + row[place], place);
                }
            }
        }

        void findMeans(Drawing drawing, int column) {
            Arrays.fill(sums, 0);
            Arrays.fill(numbers, 0);
            for (int ribbon = 0; ribbon < drawing.ribbons; ribbon++) {
                int number = drawing.toOf(ribbon) - column * COLUMN_POSTS;
                if (isNumber(number) && drawing.goesOn(ribbon)) {
                    sums[number] += drawing.placeOf(drawing.fromOf(ribbon));
                    numbers[number]++;
                }
            }
            for (int number = 0; number < COLUMN_POSTS; number++) {
                if (numbers[number] == 0) {
                    sums[number] = drawing.placeOf(column * COLUMN_POSTS + number);
                    numbers[number] = 1;
                }
            }
        }

        void readRow(Drawing drawing, int column) {
            for (int place = 0; place < COLUMN_POSTS; place++) {
                row[place] = drawing.postAt(column, place) - column * COLUMN_POSTS;
            }
        }

        /** Moves a post only ahead of those with a greater mean, so that the others stay in order. */
        void sortRow() {
            for (int place = 1; place < COLUMN_POSTS; place++) {
                int number = row[place];
                int free = place;
                while (free > 0 && hasLessMean(number, row[free - 1])) {
                    row[free] = row[free - 1];
                    free--;
                }
                row[free] = number;
            }
        }

        boolean hasLessMean(int number, int other) {
            return isNumber(number) && isNumber(other)
                    && sums[number] * numbers[other] < sums[other] * numbers[number];
        }

        static boolean isNumber(int number) {
            return number >= 0 && number < COLUMN_POSTS;
        }

        /** Leaves the best order in its row; the orders come as they are compared. */
        void findBest(Drawing drawing, int column) {
            findCosts(drawing, column);
            int least = MANY;
            for (int code = 0; code < 256; code++) {
                for (int place = 0; place < COLUMN_POSTS; place++) {
                    row[place] = code >> 2 * (COLUMN_POSTS - 1 - place) & 3;
                }
                int cost = costOfRow();
                if (cost < least) {
                    least = cost;
                    System.arraycopy(row, 0, best, 0, COLUMN_POSTS);
                }
            }
        }

        /** A row that names a post twice is no order, and costs too much to be chosen. */
        int costOfRow() {
            int sum = 0;
            for (int place = 0; place < COLUMN_POSTS; place++) {
                for (int after = place + 1; after < COLUMN_POSTS; after++) {
                    int index = row[place] * COLUMN_POSTS + row[after];
                    if (row[place] == row[after] || index < 0 || index >= costs.length) {
                        return MANY;
                    }
                    sum += costs[index];
                }
            }
            return sum;
        }

        /** Only crossings of ribbons that both end or both begin in the column depend on its order. */
        void findCosts(Drawing drawing, int column) {
            Arrays.fill(costs, 0);
            for (int one = 0; one < drawing.ribbons; one++) {
                for (int other = 0; other < drawing.ribbons; other++) {
                    addCost(drawing, column, one, other);
                }
            }
        }

        void addCost(Drawing drawing, int column, int one, int other) {
            int from = drawing.fromOf(one);
            int to = drawing.toOf(one);
            if (!drawing.joins(other, columnOf(from), columnOf(to))) {
                return;
            }
            int near = drawing.fromOf(other);
            int far = drawing.toOf(other);
            int width = Math.min(drawing.widthOf(one), drawing.widthOf(other));
            if (columnOf(from) == column && drawing.placeOf(to) > drawing.placeOf(far)) {
                addTo(from - column * COLUMN_POSTS, near - column * COLUMN_POSTS, width);
            }
            if (columnOf(to) == column && drawing.placeOf(from) > drawing.placeOf(near)) {
                addTo(to - column * COLUMN_POSTS, far - column * COLUMN_POSTS, width);
            }
        }

        void addTo(int number, int other, int width) {
            if (isNumber(number) && isNumber(other)) {
                costs[number * COLUMN_POSTS + other] += width;
            }
        }

        int tellBest() {
            int told = 0;
            for (int place = 0; place < COLUMN_POSTS; place++) {
                told = told * 10 + best[place];
            }
            return told;
        }

        void putBest(Drawing drawing, int column) {
            for (int place = 0; place < COLUMN_POSTS; place++) {
                drawing.setPlace(column * COLUMN_POSTS + best[place], place);
            }
        }
    }

    /** How much can go through from the first column to the last one. */
    private static final class Through {
        private static final int NOT_REACHED = -2;

        /** The number of each ribbon: how much goes through it so far. */
        private final int[] numbers = new int[MOST_RIBBONS];
        /** For each post the ribbon by which a way reached it first; NONE where ways start. */
        private final int[] reachedBy = new int[POSTS];
        private final int[] queue = new int[POSTS];
        /** Of each ribbon that can be cut, as bits, where it begins and ends. */
        private final int[] begins = new int[MOST_RIBBONS];
        private final int[] ends = new int[MOST_RIBBONS];
        private final int[] widths = new int[MOST_RIBBONS];
        private int size;
        /** For each ribbon the least cut, if it were not there. */
        private final int[] leastWithout = new int[MOST_RIBBONS];

        int mostByWays(Drawing drawing) {
            Arrays.fill(numbers, 0);
            int sum = 0;
            for (int turn = 0; turn < MANY; turn++) {
                int end = findWay(drawing);
                if (end == NONE) {
                    break;
                }
                int room = roomTo(drawing, end);
                addAlong(drawing, end, room);
                sum += room;
            }
            return sum;
        }

        /** Looks for a way with room, the shortest first; answers the post of the last column where it ends. */
        int findWay(Drawing drawing) {
            Arrays.fill(reachedBy, NOT_REACHED);
            int tail = 0;
            for (int post = 0; post < COLUMN_POSTS; post++) {
                reachedBy[post] = NONE;
                queue[tail] = post;
                tail++;
            }
            for (int head = 0; head < tail && head < POSTS; head++) {
                for (int ribbon = 0; ribbon < drawing.ribbons; ribbon++) {
                    int next = nextPost(drawing, queue[head], ribbon);
                    if (isPost(next) && reachedBy[next] == NOT_REACHED && tail < POSTS) {
                        reachedBy[next] = ribbon;
                        if (next >= AFTER_INNER) {
                            return next;
                        }
                        queue[tail] = next;
                        tail++;
                    }
                }
            }
            return NONE;
        }

        /** The post to which the ribbon leads from this one, as long as there is room; otherwise NONE. */
        int nextPost(Drawing drawing, int post, int ribbon) {
            if (!drawing.goesOn(ribbon)) {
                return NONE;
            }
            if (drawing.fromOf(ribbon) == post) {
                return numberOf(ribbon) < drawing.widthOf(ribbon) ? drawing.toOf(ribbon) : NONE;
            }
            return drawing.toOf(ribbon) == post && numberOf(ribbon) > 0
                    ? drawing.fromOf(ribbon) : NONE;
        }

        int numberOf(int ribbon) {
            return ribbon >= 0 && ribbon < MOST_RIBBONS ? numbers[ribbon] : 0;
        }

        int ribbonTo(int post) {
            return isPost(post) ? reachedBy[post] : NONE;
        }

        int roomTo(Drawing drawing, int end) {
            int room = MANY;
            int post = end;
            for (int step = 0; step < POSTS && ribbonTo(post) >= 0; step++) {
                int ribbon = ribbonTo(post);
                boolean onward = drawing.toOf(ribbon) == post;
                int here = onward ? drawing.widthOf(ribbon) - numberOf(ribbon) : numberOf(ribbon);
                room = Math.min(room, here);
                post = onward ? drawing.fromOf(ribbon) : drawing.toOf(ribbon);
            }
            return room;
        }

        void addAlong(Drawing drawing, int end, int room) {
            int post = end;
            for (int step = 0; step < POSTS && ribbonTo(post) >= 0; step++) {
                int ribbon = ribbonTo(post);
                boolean onward = drawing.toOf(ribbon) == post;
                if (drawing.hasRibbon(ribbon)) {
                    numbers[ribbon] += onward ? room : -room;
                }
                post = onward ? drawing.fromOf(ribbon) : drawing.toOf(ribbon);
            }
        }

        int mostByCuts(Drawing drawing) {
            readCuttable(drawing);
            int least = MANY;
            for (int inner = 0; inner < 256; inner++) {
                least = Math.min(least, cutOf(sideWith(inner)));
            }
            return least;
        }

        /** A ribbon that goes back begins nowhere here, so that no side cuts it. */
        void readCuttable(Drawing drawing) {
            size = 0;
            for (int ribbon = 0; ribbon < drawing.ribbons && ribbon < MOST_RIBBONS; ribbon++) {
                begins[ribbon] = drawing.goesOn(ribbon) ? 1 << drawing.fromOf(ribbon) : 0;
                ends[ribbon] = 1 << drawing.toOf(ribbon);
                widths[ribbon] = drawing.widthOf(ribbon);
                size++;
            }
        }

        /** A bit for each post of the near side: the first column, none of the last, and some inner posts. */
        static int sideWith(int inner) {
            return inner << FIRST_INNER | 15;
        }

        int cutOf(int side) {
            int sum = 0;
            for (int ribbon = 0; ribbon < size && ribbon < MOST_RIBBONS; ribbon++) {
                if ((begins[ribbon] & side) != 0 && (ends[ribbon] & side) == 0) {
                    sum += widths[ribbon];
                }
            }
            return sum;
        }

        /** One look at each cut serves all ribbons: without one that it cuts it is less by its width. */
        int ribbonThatMatters(Drawing drawing) {
            readCuttable(drawing);
            Arrays.fill(leastWithout, MANY);
            for (int inner = 0; inner < 256; inner++) {
                int side = sideWith(inner);
                int cut = cutOf(side);
                for (int ribbon = 0; ribbon < size && ribbon < MOST_RIBBONS; ribbon++) {
                    boolean cuts = (begins[ribbon] & side) != 0 && (ends[ribbon] & side) == 0;
                    int without = cuts ? cut - widths[ribbon] : cut;
                    leastWithout[ribbon] = Math.min(leastWithout[ribbon], without);
                }
            }
            return leastThatGoesOn(drawing);
        }

        int leastThatGoesOn(Drawing drawing) {
            int found = NONE;
            int least = MANY;
            for (int ribbon = 0; ribbon < drawing.ribbons && ribbon < MOST_RIBBONS; ribbon++) {
                if (drawing.goesOn(ribbon) && leastWithout[ribbon] < least) {
                    found = ribbon;
                    least = leastWithout[ribbon];
                }
            }
            return found;
        }
    }
}
