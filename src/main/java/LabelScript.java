/** Reads texts in a language of labels, and answers what is to be drawn or what is wrong, and where. */
public final class LabelScript {
    public static final int NONE = -1;

    private static final int TEXT_MOST = 4096;
    private static final int FORMS = 8;
    private static final int FORM_MOST = 400;
    private static final int VARIABLES = 10;
    private static final int DATA_MOST = 200;
    private static final int DEPTH_MOST = 4;
    private static final int COMMANDS_END = 2000;
    private static final int LABELS_MOST = 12;
    private static final int ORDERS_MOST = 120;
    private static final int LINES_MOST = 20;
    private static final int FIGURES_SIZE = 12;
    private static final int TAIL_MOST = 9;
    private static final int FAR = 4096;

    // A turn of the reading takes a command or leaves a form, and of both there are fewer than COMMANDS_END.
    private static final int TURNS_MOST = 10000;

    private static final int NO_FAULT = 0;
    private static final int BAD_BYTE = 1;
    private static final int BAD_LETTER = 2;
    private static final int OUT_OF_PLACE = 3;
    private static final int BAD_NUMBERS = 4;
    private static final int OUT_OF_RANGE = 5;
    private static final int BAD_DATA = 6;
    private static final int BAD_FORM = 7;
    private static final int BAD_FIELD = 8;
    private static final int BAD_USE = 9;
    private static final int TOO_MUCH = 10;
    private static final int OPEN_LABEL = 11;

    private static final String LETTERS_OUTSIDE = "SKL";
    private static final String LETTERS_INSIDE = "KEHCDUORXV#TWBNQFIGP;";

    private static final int TEXT = 0;
    private static final int BARS = 1;
    private static final int FIGURES = 2;
    private static final int SQUARE = 3;
    private static final int FRAME = 4;
    private static final int ELLIPSE = 5;
    private static final int LINE = 6;
    private static final int PICTURE = 7;

    private final Script script;
    private final Rows variables;
    private final Rows decoded;
    private final Numbers numbers;
    private final Press press;
    private int commands;
    private int lastFault;
    private int lastPlace;

    public LabelScript() {
        script = new Script();
        variables = new Rows(VARIABLES, DATA_MOST);
        decoded = new Rows(1, DATA_MOST);
        numbers = new Numbers();
        press = new Press();
        commands = 0;
        lastFault = NO_FAULT;
        lastPlace = NONE;
    }

    public int write(int n, long bytes) throws IllegalArgumentException {
        if (n < 1 || n > 8) {
            throw new IllegalArgumentException("n is not 1 .. 8");
        }
        if (script.text.size(0) + n > TEXT_MOST) {
            return NONE;
        }
        for (int i = 0; i < n; i++) {
            script.text.add(0, (int) (bytes >>> (8 * i)) & 255);
        }
        return script.text.size(0);
    }

    public int wipe() {
        int had = script.text.size(0);
        script.text.clear(0);
        return had;
    }

    public int read() {
        begin();
        boolean more = true;
        for (int turn = 0; more && lastFault == NO_FAULT && turn < TURNS_MOST; turn++) {
            script.skipBlanks();
            int at = script.spot();
            int here = script.ahead(0);
            if (here == '^') {
                tell(takeCommand(at), at);
            } else if (here != NONE) {
                tell(BAD_BYTE, at);
            } else if (!script.leave()) {
                tell(press.open ? OPEN_LABEL : NO_FAULT, at);
                more = false;
            }
        }
        if (lastFault != NO_FAULT) {
            press.sheets.clear();
            return NONE;
        }
        return press.sheets.labelCount;
    }

    public int fault() {
        return lastFault;
    }

    public int place() {
        return lastPlace;
    }

    public int label(int k, int what) throws IllegalArgumentException {
        if (what < 0 || what >= Sheets.LABEL_CELLS) {
            throw new IllegalArgumentException("what is not 0 .. 3");
        }
        return press.sheets.labelCell(k, what);
    }

    public int order(int k, int what) throws IllegalArgumentException, IndexOutOfBoundsException {
        if (what < 0 || what > Sheets.SIZE) {
            throw new IllegalArgumentException("what is not 0 .. 8");
        }
        if (!press.sheets.hasOrder(k)) {
            throw new IndexOutOfBoundsException("there is no such order");
        }
        return press.sheets.cell(k, what);
    }

    public long data(int k, int i) throws IndexOutOfBoundsException {
        if (!press.sheets.hasOrder(k)) {
            throw new IndexOutOfBoundsException("there is no such order");
        }
        long bytes = 0;
        for (int j = 0; j < 8; j++) {
            bytes |= (long) press.sheets.byteOf(k, (long) i + j) << (8 * j);
        }
        return bytes;
    }

    private void begin() {
        script.rewind();
        press.begin();
        commands = 0;
        lastFault = NO_FAULT;
        lastPlace = NONE;
    }

    private void tell(int found, int at) {
        if (found != NO_FAULT) {
            lastFault = found;
            lastPlace = at;
        }
    }

    /*
     * The faults of a command are looked for in the order of their numbers. A fault drops all labels and orders, so
     * these may be changed before the last one is looked for; only forms and variables must wait.
     */
    private int takeCommand(int at) {
        int letter = script.ahead(1);
        script.skip(2);
        commands++;
        if (!isLetter(letter)) {
            return BAD_LETTER;
        }
        if (!mayStand(letter)) {
            return OUT_OF_PLACE;
        }
        int found = numbers.take(script, letter, press.texts);
        if (found != NO_FAULT) {
            return found;
        }
        if ((letter == 'K' || letter == 'X') && !decodeData()) {
            return BAD_DATA;
        }
        found = obey(letter, at);
        return found == NO_FAULT && isLastCommand() ? TOO_MUCH : found;
    }

    private boolean isLastCommand() {
        return commands >= COMMANDS_END;
    }

    private int obey(int letter, int at) {
        int k = numbers.values.get(0);
        switch (letter) {
            case 'S':
                return storeForm(k);
            case 'K':
                return storeVariable(k);
            case 'L':
                press.openLabel(numbers.values);
                return NO_FAULT;
            case 'E':
                return press.closeLabel();
            case 'U':
                return script.enter(k, at) ? NO_FAULT : BAD_USE;
            case 'X':
                press.field.told.copy(0, decoded, 0);
                return NO_FAULT;
            case 'V':
                press.field.told.copy(0, variables, k);
                return NO_FAULT;
            case ';':
                return press.field.hasFitData() ? press.endField() : BAD_FIELD;
            default:
                press.settle(letter, numbers.values);
                return NO_FAULT;
        }
    }

    private static boolean isLetter(int letter) {
        return letter != NONE && (isAmong(LETTERS_OUTSIDE, letter) || isAmong(LETTERS_INSIDE, letter));
    }

    private static boolean isAmong(String letters, int letter) {
        return letters.indexOf((char) letter) >= 0;
    }

    private boolean mayStand(int letter) {
        if (!press.open) {
            return isAmong(LETTERS_OUTSIDE, letter);
        }
        if (letter == 'E') {
            return !script.isInForm();
        }
        if (letter == ';') {
            return press.field.hasKind();
        }
        return isAmong(LETTERS_INSIDE, letter);
    }

    private int storeForm(int k) {
        int size = script.formSize();
        if (size == NONE || size > FORM_MOST) {
            return BAD_FORM;
        }
        if (isLastCommand()) {
            return TOO_MUCH;
        }
        script.keepForm(k, size);
        return NO_FAULT;
    }

    private int storeVariable(int k) {
        if (isLastCommand()) {
            return TOO_MUCH;
        }
        variables.copy(k, decoded, 0);
        return NO_FAULT;
    }

    private boolean decodeData() {
        decoded.clear(0);
        for (int n = 0; n <= DATA_MOST; n++) {
            int b = script.ahead(0);
            if (b == NONE || b == '^') {
                return true;
            }
            int meant = b == '_' ? escapedByte() : b;
            if (meant == NONE || !decoded.add(0, meant)) {
                return false;
            }
            script.skip(b == '_' ? 3 : 1);
        }
        return false;
    }

    private int escapedByte() {
        int high = hexValue(script.ahead(1));
        int low = hexValue(script.ahead(2));
        return high == NONE || low == NONE ? NONE : high * 16 + low;
    }

    private static boolean isDigit(int b) {
        return b >= '0' && b <= '9';
    }

    private static int hexValue(int b) {
        if (isDigit(b)) {
            return b - '0';
        }
        if (b >= 'A' && b <= 'F') {
            return b - 'A' + 10;
        }
        return b >= 'a' && b <= 'f' ? b - 'a' + 10 : NONE;
    }

    private static boolean isNear(int xOrY) {
        return xOrY >= -FAR && xOrY <= FAR;
    }

    /** Ten to n, for n up to nine; never 0, so that it may divide. */
    private static int tenTo(int n) {
        int power = 1;
        for (int i = 0; i < n && i < TAIL_MOST; i++) {
            power *= 10;
        }
        return power;
    }

    /** Rows of bytes, eight in a long, because the room that all objects share is counted in elements. */
    private static final class Rows {
        private final int most;
        private final int width;
        private final int[] sizes;
        private final long[] cells;

        Rows(int count, int most) {
            int rows = Math.max(count, 0);
            this.most = Math.max(most, 0);
            width = (this.most + 7) / 8;
            sizes = new int[rows];
            cells = new long[rows * width];
        }

        int size(int row) {
            return row >= 0 && row < sizes.length ? sizes[row] : 0;
        }

        int at(int row, int i) {
            if (row < 0 || row >= sizes.length || i < 0 || i >= sizes[row]) {
                return NONE;
            }
            return (int) (cells[row * width + i / 8] >>> (i % 8 * 8)) & 255;
        }

        boolean add(int row, int b) {
            if (row < 0 || row >= sizes.length || sizes[row] >= most) {
                return false;
            }
            int i = sizes[row];
            int cell = row * width + i / 8;
            int shift = i % 8 * 8;
            cells[cell] = cells[cell] & ~(255L << shift) | (long) (b & 255) << shift;
            sizes[row] = i + 1;
            return true;
        }

        void clear(int row) {
            if (row >= 0 && row < sizes.length) {
                sizes[row] = 0;
            }
        }

        void copy(int row, Rows from, int fromRow) {
            if (row < 0 || row >= sizes.length || fromRow < 0 || fromRow >= from.sizes.length) {
                return;
            }
            int size = Math.min(from.sizes[fromRow], most);
            System.arraycopy(from.cells, fromRow * from.width, cells, row * width, (size + 7) / 8);
            sizes[row] = size;
        }
    }

    /** Up to four numbers of a command. */
    private static final class Four {
        private final int[] values = new int[4];

        int get(int i) {
            return i >= 0 && i < values.length ? values[i] : 0;
        }

        void set(int i, int value) {
            if (i >= 0 && i < values.length) {
                values[i] = value;
            }
        }

        void setAll(int first, int second, int third, int fourth) {
            set(0, first);
            set(1, second);
            set(2, third);
            set(3, fourth);
        }

        void copy(Four from) {
            setAll(from.get(0), from.get(1), from.get(2), from.get(3));
        }
    }

    /** The text, the forms, and the place where they are read. */
    private static final class Script {
        final Rows text = new Rows(1, TEXT_MOST);
        private final Rows forms = new Rows(FORMS, FORM_MOST);
        private final int[] formsLeft = new int[DEPTH_MOST];
        private final int[] placesLeft = new int[DEPTH_MOST];
        private int depth;
        private int form;
        private int at;
        private int outermost;

        void rewind() {
            depth = 0;
            at = 0;
        }

        boolean isInForm() {
            return depth > 0;
        }

        int ahead(int n) {
            return depth > 0 ? forms.at(form, at + n) : text.at(0, at + n);
        }

        void skip(int n) {
            at += n;
        }

        void skipBlanks() {
            for (int i = 0; i < TEXT_MOST && ahead(0) != NONE && ahead(0) <= ' '; i++) {
                at++;
            }
        }

        /** The place in the text that a fault found here has. */
        int spot() {
            return depth > 0 ? outermost : at;
        }

        boolean enter(int k, int place) {
            if (forms.size(k) == 0 || depth < 0 || depth >= DEPTH_MOST) {
                return false;
            }
            formsLeft[depth] = form;
            placesLeft[depth] = at;
            depth++;
            form = k;
            at = 0;
            // Within a form this is the place of the outermost use already, as spot() told it.
            outermost = place;
            return true;
        }

        boolean leave() {
            if (depth < 1 || depth > DEPTH_MOST) {
                return false;
            }
            depth--;
            form = formsLeft[depth];
            at = placesLeft[depth];
            return true;
        }

        int formSize() {
            for (int size = 0; size < TEXT_MOST; size++) {
                if (ahead(size) == '^' && ahead(size + 1) == 'Z') {
                    return size;
                }
            }
            return NONE;
        }

        void keepForm(int k, int size) {
            forms.clear(k);
            for (int i = 0; i < size; i++) {
                forms.add(k, ahead(i));
            }
            skip(size + 2);
        }
    }

    /** The numbers of the command that is read. */
    private static final class Numbers {
        private static final int DIGITS_MOST = 5;

        // Three for each number of a command: the least, the most, and what it is when it is left out.
        private static final int[] NO_RANGES = {};
        private static final int[] FORM_RANGES = {0, 7, 0};
        private static final int[] VARIABLE_RANGES = {0, 9, 0};
        private static final int[] LABEL_RANGES = {1, 1024, 0, 1, 1024, 0};
        private static final int[] POINT_RANGES = {-4096, 4096, 0, -4096, 4096, 0};
        private static final int[] COPIES_RANGES = {1, 12, 1};
        private static final int[] TEXT_RANGES = {0, 3, 0, 1, 10, 1, 1, 10, 1, 0, 3, 0};
        private static final int[] COUNT_RANGES = {-99, 99, 0};
        private static final int[] BLOCK_RANGES = {1, 99, 0, 0, 999, 0, 0, 2, 0, 0, 999, 0};
        private static final int[] BARS_RANGES = {1, 50, 2, 1, 2048, 50, 0, 3, 0, 0, 1, 0};
        private static final int[] FIGURES_RANGES = {1, 50, 2, 1, 2048, 50, 0, 3, 0};
        private static final int[] SQUARE_RANGES = {1, 50, 2, 0, 3, 1, -1, 7, -1, 0, 3, 0};
        private static final int[] FRAME_RANGES = {1, 2048, 1, 1, 2048, 1, 1, 200, 1};
        private static final int[] LINE_RANGES = {-4096, 4096, 0, -4096, 4096, 0, 1, 200, 1};
        private static final int[] PICTURE_RANGES = {1, 1024, 8};

        final Four values = new Four();

        private static int[] rangesOf(int letter) {
            switch (letter) {
                case 'S':
                case 'U':
                    return FORM_RANGES;
                case 'K':
                case 'V':
                    return VARIABLE_RANGES;
                case 'L':
                    return LABEL_RANGES;
                case 'H':
                case 'O':
                    return POINT_RANGES;
                case 'C':
                    return COPIES_RANGES;
                case 'D':
                case 'T':
                    return TEXT_RANGES;
                case '#':
                    return COUNT_RANGES;
                case 'W':
                    return BLOCK_RANGES;
                case 'B':
                    return BARS_RANGES;
                case 'N':
                    return FIGURES_RANGES;
                case 'Q':
                    return SQUARE_RANGES;
                case 'F':
                case 'I':
                    return FRAME_RANGES;
                case 'G':
                    return LINE_RANGES;
                case 'P':
                    return PICTURE_RANGES;
                default:
                    return NO_RANGES;
            }
        }

        /** Takes the numbers behind the letter; answers their fault. */
        int take(Script script, int letter, Four texts) {
            int[] ranges = rangesOf(letter);
            if (ranges.length == 0) {
                return NO_FAULT;
            }
            leaveOut(ranges);
            if (letter == 'T') {
                values.copy(texts);
            }
            if (!takeAll(script, ranges.length / 3)) {
                return BAD_NUMBERS;
            }
            boolean comma = script.ahead(0) == ',';
            if (comma != (letter == 'K')) {
                return BAD_NUMBERS;
            }
            if (comma) {
                script.skip(1);
            }
            return areInRange(ranges) ? NO_FAULT : OUT_OF_RANGE;
        }

        private void leaveOut(int[] ranges) {
            for (int i = 0; i < 4; i++) {
                values.set(i, 3 * i + 2 < ranges.length ? ranges[3 * i + 2] : 0);
            }
        }

        private boolean takeAll(Script script, int most) {
            for (int i = 0; i < most; i++) {
                if (i > 0) {
                    if (script.ahead(0) != ',') {
                        return true;
                    }
                    script.skip(1);
                }
                if (!takeOne(script, i)) {
                    return false;
                }
            }
            return true;
        }

        private boolean takeOne(Script script, int i) {
            boolean minus = script.ahead(0) == '-';
            if (minus) {
                script.skip(1);
            }
            int value = 0;
            int digits = 0;
            while (digits <= DIGITS_MOST && isDigit(script.ahead(0))) {
                value = value * 10 + script.ahead(0) - '0';
                script.skip(1);
                digits++;
            }
            if (digits > DIGITS_MOST || minus && digits == 0) {
                return false;
            }
            if (digits > 0) {
                values.set(i, minus ? -value : value);
            }
            return true;
        }

        private boolean areInRange(int[] ranges) {
            for (int i = 0; 3 * i + 2 < ranges.length; i++) {
                if (values.get(i) < ranges[3 * i] || values.get(i) > ranges[3 * i + 1]) {
                    return false;
                }
            }
            return true;
        }
    }

    /** The field that is being told. */
    private static final class Field {
        private static final String LETTERS_WITH_DATA = "TWBNQP";

        final Rows told = new Rows(1, DATA_MOST);
        final Four shape = new Four();
        int letter = NONE;
        int x;
        int y;
        boolean turned;
        boolean counts;
        int step;

        void begin() {
            told.clear(0);
            letter = NONE;
            x = 0;
            y = 0;
            turned = false;
            counts = false;
            step = 0;
        }

        boolean hasKind() {
            return letter != NONE;
        }

        boolean hasFitData() {
            int size = told.size(0);
            if (counts && !isDigit(told.at(0, size - 1))) {
                return false;
            }
            if (isAmong(LETTERS_WITH_DATA, letter) && size == 0) {
                return false;
            }
            if (letter == 'N') {
                return size == FIGURES_SIZE && digitsAtEnd(FIGURES_SIZE) == FIGURES_SIZE;
            }
            return letter != 'P' || isPicture();
        }

        private int digitsAtEnd(int most) {
            int last = told.size(0) - 1;
            int digits = 0;
            while (digits < most && isDigit(told.at(0, last - digits))) {
                digits++;
            }
            return digits;
        }

        private boolean isPicture() {
            int size = told.size(0);
            for (int i = 0; i < size; i++) {
                if (hexValue(told.at(0, i)) == NONE) {
                    return false;
                }
            }
            int digitsOfRow = Math.max(1, (shape.get(0) + 7) / 8) * 2;
            return size % digitsOfRow == 0;
        }

        /** How many digits at the end of the data count on. */
        int tail() {
            return counts ? digitsAtEnd(TAIL_MOST) : 0;
        }

        int tailNumber(int tail) {
            int last = told.size(0) - 1;
            int number = 0;
            for (int behind = tail - 1; behind >= 0; behind--) {
                number = number * 10 + told.at(0, last - behind) - '0';
            }
            return number;
        }
    }

    /** The lines of a block, as parts of its data. */
    private static final class Lines {
        private final int[] starts = new int[LINES_MOST];
        private final int[] sizes = new int[LINES_MOST];

        int start(int k) {
            return k >= 0 && k < starts.length ? starts[k] : 0;
        }

        int size(int k) {
            return k >= 0 && k < sizes.length ? sizes[k] : 0;
        }

        /** How many lines of at most so many bytes the data has; NONE when these are too many. */
        int cut(Rows told, int most) {
            int from = 0;
            for (int k = 0; k < LINES_MOST; k++) {
                int end = pieceEnd(told, from);
                if (end - from <= most) {
                    keep(k, from, end);
                    if (end >= told.size(0)) {
                        return k + 1;
                    }
                    from = end + 1;
                } else {
                    int blank = lastBlank(told, from, from + most);
                    keep(k, from, blank == NONE ? from + most : blank);
                    from = blank == NONE ? from + most : blank + 1;
                }
            }
            return NONE;
        }

        private void keep(int k, int from, int end) {
            if (k >= 0 && k < starts.length && k < sizes.length) {
                starts[k] = from;
                sizes[k] = end - from;
            }
        }

        private static int pieceEnd(Rows told, int from) {
            int end = from;
            while (end < told.size(0) && told.at(0, end) != '\n') {
                end++;
            }
            return end;
        }

        private static int lastBlank(Rows told, int from, int last) {
            for (int i = last; i >= from; i--) {
                if (told.at(0, i) == ' ') {
                    return i;
                }
            }
            return NONE;
        }
    }

    /** The labels that were made, and their orders; those of a label that is not ended stand behind the others. */
    private static final class Sheets {
        static final int LABEL_CELLS = 4;

        // What the face tells of an order, by its numbers there.
        private static final int KIND = 0;
        private static final int X = 1;
        private static final int Y = 2;
        private static final int QUARTER = 3;
        private static final int WAY = 4;
        private static final int A = 5;
        private static final int B = 6;
        private static final int C = 7;
        static final int SIZE = 8;

        // Behind these: whose data the order has, where in it, and how it counts on.
        private static final int FIELD = 9;
        private static final int START = 10;
        private static final int TAIL = 11;
        private static final int NUMBER = 12;
        private static final int STEP = 13;
        private static final int CELLS = 14;

        private final int[] labels = new int[LABELS_MOST * LABEL_CELLS];
        private final int[] cells = new int[ORDERS_MOST * CELLS];
        private final Rows told = new Rows(ORDERS_MOST, DATA_MOST);
        int labelCount;
        private int orderCount;
        private int openCount;
        private int fieldCount;
        private int fieldTail;
        private int fieldNumber;

        void clear() {
            labelCount = 0;
            orderCount = 0;
            openCount = 0;
            fieldCount = 0;
        }

        boolean hasOrder(int k) {
            return k >= 0 && k < orderCount;
        }

        /** Whether the open label has more orders than a label may have. */
        boolean isOverfull() {
            return openCount > ORDERS_MOST;
        }

        int labelCell(int k, int what) {
            if (k < 0 || k >= labelCount || k >= LABELS_MOST || what < 0 || what >= LABEL_CELLS) {
                return NONE;
            }
            return labels[k * LABEL_CELLS + what];
        }

        int cell(int k, int what) {
            boolean isThere = k >= 0 && k < ORDERS_MOST && what >= 0 && what < CELLS;
            return isThere ? cells[k * CELLS + what] : 0;
        }

        private void setCell(int k, int what, int value) {
            if (k >= 0 && k < ORDERS_MOST && what >= 0 && what < CELLS) {
                cells[k * CELLS + what] = value;
            }
        }

        void addField(Field field) {
            told.copy(fieldCount, field.told, 0);
            fieldCount++;
            fieldTail = field.tail();
            fieldNumber = field.tailNumber(fieldTail);
        }

        /*
         * An order beyond the most of all labels is only counted: its label cannot be ended any more, but that is a
         * fault of the command that ends it.
         */
        void addOrder(int kind, int x, int y, Four shape, int start, int size, Field field) {
            int at = (orderCount + openCount) * CELLS;
            openCount++;
            if (at < 0 || at + CELLS > cells.length) {
                return;
            }
            cells[at + KIND] = kind;
            cells[at + X] = x;
            cells[at + Y] = y;
            cells[at + QUARTER] = shape.get(3);
            cells[at + WAY] = field.turned ? 2 : 0;
            cells[at + A] = shape.get(0);
            cells[at + B] = shape.get(1);
            cells[at + C] = shape.get(2);
            cells[at + SIZE] = size;
            cells[at + FIELD] = fieldCount - 1;
            cells[at + START] = start;
            cells[at + TAIL] = fieldTail;
            cells[at + NUMBER] = fieldNumber;
            cells[at + STEP] = field.step;
        }

        boolean endLabel(int width, int height, int copies) {
            if (labelCount + copies > LABELS_MOST || orderCount + openCount * copies > ORDERS_MOST) {
                return false;
            }
            int first = orderCount;
            for (int copy = 0; copy < copies; copy++) {
                addLabel(width, height, orderCount);
                copyOrders(first, copy);
                orderCount += openCount;
            }
            openCount = 0;
            return true;
        }

        private void addLabel(int width, int height, int first) {
            int at = labelCount * LABEL_CELLS;
            if (at >= 0 && at + LABEL_CELLS <= labels.length) {
                labels[at] = width;
                labels[at + 1] = height;
                labels[at + 2] = first;
                labels[at + 3] = openCount;
            }
            labelCount++;
        }

        private void copyOrders(int first, int copy) {
            for (int n = 0; copy > 0 && n < openCount; n++) {
                int to = orderCount + n;
                for (int what = 0; what < CELLS; what++) {
                    setCell(to, what, cell(first + n, what));
                }
                int moved = cell(to, NUMBER) + cell(to, STEP) * copy;
                setCell(to, NUMBER, Math.floorMod(moved, tenTo(cell(to, TAIL))));
            }
        }

        int byteOf(int k, long i) {
            if (i < 0 || i >= cell(k, SIZE)) {
                return 0;
            }
            int n = (int) i;
            if (cell(k, KIND) == PICTURE) {
                return hexValue(toldByte(k, 2 * n)) * 16 + hexValue(toldByte(k, 2 * n + 1)) & 255;
            }
            return toldByte(k, cell(k, START) + n) & 255;
        }

        private int toldByte(int k, int i) {
            int field = cell(k, FIELD);
            int behind = told.size(field) - 1 - i;
            if (behind < 0 || behind >= cell(k, TAIL)) {
                return told.at(field, i);
            }
            return '0' + cell(k, NUMBER) / tenTo(behind) % 10;
        }
    }

    /** The label that is open, and how its fields become orders. */
    private static final class Press {
        final Sheets sheets = new Sheets();
        final Field field = new Field();
        final Four texts = new Four();
        private final Four shape = new Four();
        private final Lines lines = new Lines();
        boolean open;
        private int width;
        private int height;
        private int homeX;
        private int homeY;
        private int copies;

        void begin() {
            sheets.clear();
            open = false;
        }

        void openLabel(Four numbers) {
            open = true;
            width = numbers.get(0);
            height = numbers.get(1);
            homeX = 0;
            homeY = 0;
            copies = 1;
            texts.setAll(0, 1, 1, 0);
            field.begin();
        }

        int closeLabel() {
            open = false;
            return sheets.endLabel(width, height, copies) ? NO_FAULT : TOO_MUCH;
        }

        void settle(int letter, Four numbers) {
            switch (letter) {
                case 'H':
                    homeX = numbers.get(0);
                    homeY = numbers.get(1);
                    return;
                case 'C':
                    copies = numbers.get(0);
                    return;
                case 'D':
                    texts.copy(numbers);
                    return;
                case 'O':
                    field.x = numbers.get(0);
                    field.y = numbers.get(1);
                    return;
                case 'R':
                    field.turned = true;
                    return;
                case '#':
                    field.counts = true;
                    field.step = numbers.get(0);
                    return;
                default:
                    field.letter = letter;
                    field.shape.copy(numbers);
            }
        }

        int endField() {
            sheets.addField(field);
            boolean fits = field.letter == 'W' ? drawBlock() : drawWhole();
            if (fits && field.letter == 'B' && field.shape.get(3) == 1) {
                fits = drawTextOfBars();
            }
            if (!fits) {
                return BAD_FIELD;
            }
            field.begin();
            return sheets.isOverfull() ? TOO_MUCH : NO_FAULT;
        }

        private boolean drawWhole() {
            Four n = field.shape;
            int size = field.told.size(0);
            switch (field.letter) {
                case 'T':
                    return add(TEXT, n, 0, 0, 0, size);
                case 'B':
                case 'N':
                    shape.setAll(n.get(0), n.get(1), 0, n.get(2));
                    return add(field.letter == 'B' ? BARS : FIGURES, shape, 0, 0, 0, size);
                case 'Q':
                    return add(SQUARE, n, 0, 0, 0, size);
                case 'F':
                    return add(FRAME, n, 0, 0, 0, 0);
                case 'I':
                    return add(ELLIPSE, n, 0, 0, 0, 0);
                case 'G':
                    return add(LINE, n, 0, 0, 0, 0) && endsNear();
                case 'P':
                    return add(PICTURE, n, 0, 0, 0, size / 2);
                default:
                    return false;
            }
        }

        private boolean drawBlock() {
            Four n = field.shape;
            int most = n.get(0);
            int count = lines.cut(field.told, most);
            for (int k = 0; k < count; k++) {
                int size = lines.size(k);
                int i = n.get(3) * cellsBefore(n.get(2), most - size);
                if (!add(TEXT, texts, i, k * n.get(1), lines.start(k), size)) {
                    return false;
                }
            }
            return count != NONE;
        }

        private boolean drawTextOfBars() {
            Four n = field.shape;
            shape.setAll(texts.get(0), texts.get(1), texts.get(2), n.get(2));
            return add(TEXT, shape, 0, n.get(1) + 3, 0, field.told.size(0));
        }

        private boolean endsNear() {
            Four n = field.shape;
            return isNear(homeX + field.x + n.get(0)) && isNear(homeY + field.y + n.get(1));
        }

        /** Adds an order with a part of the data, by the steps (i, j); what is drawn has a, b, c, and r last. */
        private boolean add(int kind, Four drawn, int i, int j, int start, int size) {
            int r = drawn.get(3);
            int x = homeX + field.x + stepsX(r, i, j);
            int y = homeY + field.y + stepsY(r, i, j);
            sheets.addOrder(kind, x, y, drawn, start, size, field);
            return isNear(x) && isNear(y);
        }

        private static int cellsBefore(int side, int left) {
            if (side == 0) {
                return 0;
            }
            return side == 1 ? left : left / 2;
        }

        private static int stepsX(int r, int i, int j) {
            switch (r) {
                case 0:
                    return i;
                case 1:
                    return -j;
                case 2:
                    return -i;
                default:
                    return j;
            }
        }

        private static int stepsY(int r, int i, int j) {
            switch (r) {
                case 0:
                    return j;
                case 1:
                    return i;
                case 2:
                    return -j;
                default:
                    return -i;
            }
        }
    }
}
