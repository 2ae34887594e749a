/**
 * Paper sizes of a strange land; ../shared/DOC.md tells what each call must do.
 *
 * Every row that a call needs is made once with the object and used again, because all
 * calls of a run share one small room of objects.
 */
public final class PaperLand {
    public static final int NONE = -1;

    private static final String FIRST_SETUP =
        "land 3 50; series royal 100 141 size 0 10 size 2 3; series long 60 200 size 0 4";

    private static final int MOST_SERIES = 5;
    private static final int SIZES = 10;
    private static final int MOST_LETTERS = 6;
    private static final int MOST_SIDE = 2000;
    private static final int MOST_SHEETS = 9999;
    private static final int MOST_REAM = 500;
    private static final int MOST_EDGE = 50;
    private static final int MOST_REAMS = 99;
    private static final int MOST_NUMBER = 999;
    private static final int MOST_FOLDS = 5;
    private static final int MOST_CELLS = 32;
    private static final int MOST_PRINTS = 30;
    private static final int MOST_BYTES = 600;
    private static final int MOST_CHANGES = 8;
    private static final int SLOTS = 2;

    /* 50 sizes with stacks, each of at most 6 letters, a digit, a colon, 4 digits and a blank. */
    private static final int MOST_WRITTEN = 650;

    private static final int MOST_ORDERS = 30;
    private static final int MOST_DONE = 40;
    private static final int MOST_TIMES = 20;
    private static final int MOST_AGAINS = 3;

    private static final int ACCOUNTS = 8;
    private static final int CAME = 0;
    private static final int PRINTED = 1;
    private static final int LEFT = 2;
    private static final int STRIPS = 3;
    private static final int CUTS = 4;
    private static final int ORDERS = 5;
    private static final int WENT = 6;
    private static final int REAMS = 7;

    private static final int REFUSALS = 6;
    private static final int NO_SERIES = -2;
    private static final int IS_VOID = -3;
    private static final int TOO_FEW = -4;
    private static final int TOO_MANY = -5;

    private static final int NOT_ALLOWED = 1;
    private static final int OUT_OF_RANGE = 2;
    private static final int TOLD_BEFORE = 3;
    private static final int OVER_LIMIT = 4;

    private static final int BLANK = 32;
    private static final int LINE_FEED = 10;
    private static final int COLON = 58;

    private final Bytes text = new Bytes(MOST_BYTES);
    private final Bytes written = new Bytes(MOST_WRITTEN);
    private final Reader reader = new Reader(text);
    private final SetupReader setupReader = new SetupReader(reader);
    private final Script script = new Script();
    private final Land land = new Land();
    private final Land draft = new Land();
    private final History history = new History();
    private final Land[] slots = new Land[SLOTS];
    private final boolean[] isSaved = new boolean[SLOTS];
    private final int[] refusals = new int[REFUSALS];
    private final Plan plan = new Plan();
    private final Folding folding = new Folding();
    private int scriptDone;

    public PaperLand() {
        for (int slot = 0; slot < SLOTS; slot++) {
            slots[slot] = new Land();
        }
        for (int index = 0; index < FIRST_SETUP.length(); index++) {
            text.put(FIRST_SETUP.charAt(index));
        }
        readSetup();
    }

    // ---- the text

    public int append(int a, int b, int c, int d, int e) throws IllegalStateException {
        if (!text.hasRoom(20)) {
            throw new IllegalStateException("the text buffer is full");
        }
        text.putFour(a);
        text.putFour(b);
        text.putFour(c);
        text.putFour(d);
        text.putFour(e);
        return text.length;
    }

    public int truncate(int length) throws IllegalArgumentException {
        require(length >= 0 && length <= text.length);
        text.shorten(length);
        return text.length;
    }

    public int load() {
        return readSetup() ? land.seriesCount : NONE;
    }

    public int play() {
        boolean isScript = script.readFrom(reader, land);
        text.shorten(0);
        if (!isScript) {
            return NONE;
        }
        history.keep(land);
        scriptDone = 0;
        runOrders(0, script.total, 0);
        return scriptDone;
    }

    public int errorCode() {
        return reader.faultCode;
    }

    public int errorPosition() {
        return reader.faultPosition;
    }

    private boolean readSetup() {
        boolean isSetup = setupReader.readInto(draft);
        text.shorten(0);
        if (isSetup) {
            land.copyFrom(draft);
            history.forget();
            forgetSlotsAndRefusals();
        }
        return isSetup;
    }

    private void forgetSlotsAndRefusals() {
        for (int slot = 0; slot < SLOTS; slot++) {
            isSaved[slot] = false;
        }
        for (int code = 0; code < REFUSALS; code++) {
            refusals[code] = 0;
        }
    }

    /** Does the orders of the script from one place up to another; false when the script is to stop. */
    private boolean runOrders(int from, int to, int depth) {
        for (int at = from; at < to; at = Math.max(at + 1, script.endAt(at))) {
            if (script.kindAt(at) == Script.AGAIN) {
                if (!runAgain(at, depth)) {
                    return false;
                }
            } else if (doOrder(at) < NONE) {
                return false;
            } else {
                scriptDone++;
                if (scriptDone >= MOST_DONE) {
                    return false;
                }
            }
        }
        return true;
    }

    private boolean runAgain(int at, int depth) {
        // Without an order inside nothing could ever be done, however often it is gone through.
        if (depth >= MOST_AGAINS || script.isIdleAt(at)) {
            return true;
        }
        int times = script.firstAt(at);
        for (int time = 0; time < times; time++) {
            if (!runOrders(at + 1, script.endAt(at), depth + 1)) {
                return false;
            }
        }
        return true;
    }

    /** The answer of the change's own method; the undo of the whole script is kept by play. */
    private int doOrder(int at) {
        int first = script.firstAt(at);
        int second = script.secondAt(at);
        int third = script.thirdAt(at);
        switch (script.kindAt(at)) {
            case Script.BUY:
                return land.hasSeries(first) ? doBuy(first, second, third, false) : refuse(NO_SERIES);
            case Script.CUT:
                return land.hasSeries(first) ? doCut(first, second, third, false) : refuse(NO_SERIES);
            case Script.ORDER:
                return doPrintOrder(first, second, third, false);
            case Script.EDGE:
                return doSetEdge(first, false);
            default:
                return doSetReam(first, false);
        }
    }

    // ---- series, sizes, stacks

    public int count(int what) throws IllegalArgumentException {
        switch (what) {
            case 0:
                return land.seriesCount;
            case 1:
                return land.sheetsInAll();
            case 2:
                return land.stacksInAll();
            case 3:
                return land.edge;
            case 4:
                return land.ream;
            case 5:
                return land.prints.kept;
            case 6:
                return history.held;
            default:
                throw new IllegalArgumentException("what is out of range");
        }
    }

    public int letter(int series, int index) throws IndexOutOfBoundsException {
        requireSeries(series);
        return land.series[series].letterAt(index);
    }

    public int size(int series, int n, int what) throws IndexOutOfBoundsException, IllegalArgumentException {
        requireSize(series, n);
        Series of = land.series[series];
        switch (what) {
            case 0:
                return of.wideAt(n);
            case 1:
                return of.highAt(n);
            case 2:
                return of.areaAt(n);
            case 3:
                return of.sheetsAt(n);
            case 4:
                return land.ream > 0 ? of.sheetsAt(n) / land.ream : 0;
            case 5:
                return of.stripAt(n);
            case 6:
                return usable(of.wideAt(n), land.edge);
            case 7:
                return usable(of.highAt(n), land.edge);
            case 8:
                return of.supplyAt(n);
            case 9:
                return of.isVoid(n) ? 1 : 0;
            default:
                throw new IllegalArgumentException("what is out of range");
        }
    }

    public int sizes(int series) throws IndexOutOfBoundsException {
        requireSeries(series);
        int number = 0;
        for (int n = 0; n < SIZES; n++) {
            if (!land.series[series].isVoid(n)) {
                number++;
            }
        }
        return number;
    }

    public boolean isAlike(int series, int n, int other, int m) throws IndexOutOfBoundsException {
        requireSize(series, n);
        requireSize(other, m);
        Series one = land.series[series];
        Series two = land.series[other];
        return !one.isVoid(n) && !two.isVoid(m)
            && one.longerAt(n) * two.shorterAt(m) == one.shorterAt(n) * two.longerAt(m);
    }

    public double ratio(int series, int n) throws IndexOutOfBoundsException {
        requireSize(series, n);
        Series of = land.series[series];
        return of.isVoid(n) ? 0.0 : (double) of.longerAt(n) / (double) of.shorterAt(n);
    }

    public int ordered(int w, int h) throws IllegalArgumentException {
        require(isSide(w) && isSide(h));
        return land.prints.numberOf(w, h);
    }

    public int print(int place, int what) throws IllegalArgumentException {
        require(what >= 0 && what <= 2);
        return land.prints.tell(place, what);
    }

    public int account(int what) throws IllegalArgumentException {
        require(what >= 0 && what < ACCOUNTS);
        return capped(land.accounts[what]);
    }

    public int refused(int code) throws IllegalArgumentException {
        int place = NO_SERIES - code;
        require(code <= NO_SERIES && code > NO_SERIES - REFUSALS && place >= 0 && place < REFUSALS);
        return refusals[place];
    }

    public long gap() {
        long spent = land.accounts[PRINTED] + land.accounts[LEFT] + land.accounts[STRIPS];
        return Math.abs(land.accounts[CAME] - spent - land.areaInAll());
    }

    public int lostBits() {
        long came = land.accounts[CAME];
        if (came == 0) {
            return 0;
        }
        return bitsOfShare((float) (land.accounts[LEFT] + land.accounts[STRIPS]) / (float) came);
    }

    /** The bits of a float from 0 to 1; the accounts are far too small for one without its hidden bit. */
    private static int bitsOfShare(float share) {
        if (share <= 0f) {
            return 0;
        }
        float rest = share;
        int exponent = 127;
        while (rest < 1f && exponent > 1) {
            rest = rest * 2f;
            exponent--;
        }
        return (exponent << 23) + (int) ((rest - 1f) * 8388608f);
    }

    // ---- folds

    public int mostFolds(int series, int n) throws IndexOutOfBoundsException {
        requireSize(series, n);
        return land.series[series].foldsAt(n);
    }

    public int grid(int series, int n, int folds, boolean isColumns) throws IndexOutOfBoundsException, IllegalArgumentException {
        foldSheet(series, n, folds);
        return isColumns ? folding.columns : folding.rows;
    }

    public int page(int series, int n, int folds, int row, int column, boolean isBack) throws IndexOutOfBoundsException, IllegalArgumentException {
        foldSheet(series, n, folds);
        if (!folding.hasCell(row, column)) {
            throw new IndexOutOfBoundsException("no such cell");
        }
        return folding.pageAt(row, column, isBack);
    }

    public int cellOf(int series, int n, int folds, int page) throws IndexOutOfBoundsException, IllegalArgumentException {
        foldSheet(series, n, folds);
        int cell = folding.cellWith(page);
        if (cell == NONE) {
            throw new IndexOutOfBoundsException("no such page");
        }
        return cell;
    }

    public int pageGap(int series, int n, int folds) throws IndexOutOfBoundsException, IllegalArgumentException {
        foldSheet(series, n, folds);
        return folding.cellsWithOtherPages();
    }

    private void foldSheet(int series, int n, int folds) {
        requireSize(series, n);
        Series of = land.series[series];
        require(folds >= 0 && folds <= of.foldsAt(n));
        folding.foldUp(of, n, folds);
    }

    // ---- orders to come

    public int fitting(int w, int h) throws IllegalArgumentException {
        require(isSide(w) && isSide(h));
        plan.make(land, w, h, 1);
        return plan.sizesThatFit;
    }

    public int nearest(int w, int h, int number) throws IllegalArgumentException {
        requireOrder(w, h, number);
        plan.make(land, w, h, number);
        return plan.reason == 0 ? plan.told() : NONE;
    }

    public int whyNot(int w, int h, int number, int depth) throws IllegalArgumentException {
        requireOrder(w, h, number);
        require(depth == 0 || depth == 1);
        plan.make(land, w, h, number);
        if (depth == 0) {
            return plan.reason;
        }
        if (plan.reason == 0) {
            return NONE;
        }
        return plan.reason == 1 ? land.greatestEdge(w, h) : plan.greatestSupply;
    }

    public int ifOrder(int w, int h, int number, int what) throws IllegalArgumentException {
        requireOrder(w, h, number);
        require(what >= 0 && what <= 3);
        plan.make(land, w, h, number);
        if (plan.reason != 0) {
            return NONE;
        }
        Series of = land.series[plan.series];
        Cuts cuts = plan.cuts;
        switch (what) {
            case 0:
                return cuts.total;
            case 1:
                return capped(cuts.strips);
            case 2:
                return capped((long) plan.left * number);
            default:
                return of.sheetsAt(plan.n) + cuts.halvesOf(plan.n) - number;
        }
    }

    public int mostOf(int w, int h) throws IllegalArgumentException {
        require(isSide(w) && isSide(h));
        plan.make(land, w, h, 1);
        return Math.min(MOST_NUMBER, plan.greatestSupply);
    }

    public int cutsFor(int series, int n, int sheets) throws IndexOutOfBoundsException, IllegalArgumentException {
        requireSize(series, n);
        require(sheets >= 0 && sheets <= MOST_SHEETS);
        Series of = land.series[series];
        if (of.supplyAt(n) < sheets) {
            return NONE;
        }
        plan.cuts.make(of, n, sheets);
        return plan.cuts.total;
    }

    // ---- changes

    public int found(int wide, int high) throws IllegalArgumentException {
        require(isSide(wide) && isSide(high));
        int length = text.length;
        if (land.seriesCount >= MOST_SERIES || !text.isName() || land.seriesNamed(text, 0, length) != NONE) {
            return NONE;
        }
        history.keep(land);
        land.addSeries(text, 0, length, wide, high);
        text.shorten(0);
        return land.seriesCount - 1;
    }

    public int buy(int series, int n, int reams) throws IndexOutOfBoundsException, IllegalArgumentException {
        requireSize(series, n);
        require(reams >= 1 && reams <= MOST_REAMS);
        return doBuy(series, n, reams, true);
    }

    public int cut(int series, int n, int sheets) throws IndexOutOfBoundsException, IllegalArgumentException {
        requireSize(series, n);
        require(sheets >= 1 && sheets <= MOST_SHEETS);
        return doCut(series, n, sheets, true);
    }

    public int order(int w, int h, int number) throws IllegalArgumentException {
        requireOrder(w, h, number);
        return doPrintOrder(w, h, number, true);
    }

    public int setEdge(int edge) throws IllegalArgumentException {
        require(edge >= 0 && edge <= MOST_EDGE);
        return doSetEdge(edge, true);
    }

    public int setReam(int ream) throws IllegalArgumentException {
        require(ream >= 1 && ream <= MOST_REAM);
        return doSetReam(ream, true);
    }

    private int doBuy(int series, int n, int reams, boolean isAlone) {
        int refusal = land.refusalToBuy(series, n, reams);
        if (refusal != 0) {
            return refuse(refusal);
        }
        if (isAlone) {
            history.keep(land);
        }
        return land.takeIn(series, n, reams);
    }

    private int doCut(int series, int n, int sheets, boolean isAlone) {
        int refusal = land.refusalToCut(series, n, sheets);
        if (refusal != 0) {
            return refuse(refusal);
        }
        if (isAlone) {
            history.keep(land);
        }
        return land.cutUp(series, n, sheets);
    }

    private int doPrintOrder(int w, int h, int number, boolean isAlone) {
        plan.make(land, w, h, number);
        if (plan.reason != 0) {
            return refuse(TOO_MANY - plan.reason);
        }
        if (isAlone) {
            history.keep(land);
        }
        land.fill(plan);
        return plan.told();
    }

    private int doSetEdge(int edge, boolean isAlone) {
        int before = land.edge;
        if (isAlone) {
            history.keep(land);
        }
        land.edge = edge;
        return before;
    }

    private int doSetReam(int ream, boolean isAlone) {
        int before = land.ream;
        if (isAlone) {
            history.keep(land);
        }
        land.ream = ream;
        return before;
    }

    private int refuse(int code) {
        int place = NO_SERIES - code;
        if (place >= 0 && place < REFUSALS) {
            refusals[place]++;
        }
        return code;
    }

    // ---- the written text, undo, saved states

    public int writeStacks() {
        written.shorten(0);
        for (int series = 0; series < MOST_SERIES && series < land.seriesCount; series++) {
            land.series[series].writeTo(written);
        }
        return written.length;
    }

    public int writeSheet(int series, int n, int folds, boolean isBack) throws IndexOutOfBoundsException, IllegalArgumentException {
        foldSheet(series, n, folds);
        written.shorten(0);
        for (int row = 0; row < folding.rows; row++) {
            for (int column = 0; column < folding.columns; column++) {
                if (column > 0) {
                    written.put(BLANK);
                }
                written.putNumber(folding.pageAt(row, column, isBack));
            }
            written.put(LINE_FEED);
        }
        return written.length;
    }

    public int outputByte(int index) {
        return written.byteAt(index);
    }

    public int undo() {
        return history.giveBack(land) ? history.held : NONE;
    }

    public int save(int slot) throws IndexOutOfBoundsException {
        requireSlot(slot);
        slots[slot].copyFrom(land);
        isSaved[slot] = true;
        return land.seriesCount;
    }

    public int restore(int slot) throws IndexOutOfBoundsException, IllegalStateException {
        requireSlot(slot);
        if (!isSaved[slot]) {
            throw new IllegalStateException("nothing was saved there");
        }
        land.copyFrom(slots[slot]);
        history.forget();
        return land.seriesCount;
    }

    // ---- what is asked of arguments

    private static void require(boolean isInRange) {
        if (!isInRange) {
            throw new IllegalArgumentException("a number is out of its range");
        }
    }

    private static void requireOrder(int w, int h, int number) {
        require(isSide(w) && isSide(h) && number >= 1 && number <= MOST_NUMBER);
    }

    private void requireSeries(int series) {
        if (!land.hasSeries(series)) {
            throw new IndexOutOfBoundsException("no such series");
        }
    }

    private void requireSize(int series, int n) {
        if (!land.hasSeries(series) || n < 0 || n >= SIZES) {
            throw new IndexOutOfBoundsException("no such series or size");
        }
    }

    private static void requireSlot(int slot) {
        if (slot < 0 || slot >= SLOTS) {
            throw new IndexOutOfBoundsException("no such slot");
        }
    }

    private static boolean isSide(int side) {
        return side >= 1 && side <= MOST_SIDE;
    }

    private static int usable(int side, int edge) {
        return side > 2 * edge ? side - 2 * edge : 0;
    }

    private static int capped(long number) {
        return (int) Math.min(2147483647L, number);
    }

    private static boolean isLetter(int value) {
        return value >= 'a' && value <= 'z';
    }

    private static boolean isDigit(int value) {
        return value >= '0' && value <= '9';
    }

    private static boolean isBlank(int value) {
        return value == BLANK || value == LINE_FEED;
    }

    private static int valueAt(int[] row, int index) {
        return index >= 0 && index < row.length ? row[index] : 0;
    }

    private static void setAt(int[] row, int index, int value) {
        if (index >= 0 && index < row.length) {
            row[index] = value;
        }
    }

    /** A run of bytes with a greatest length: the text buffer, and the written text. */
    private static final class Bytes {
        private final int[] bytes;
        private int length;

        Bytes(int most) {
            bytes = new int[Math.max(0, most)];
        }

        boolean hasRoom(int more) {
            return length + more <= bytes.length;
        }

        void put(int value) {
            if (hasRoom(1)) {
                setAt(bytes, length, value);
                length++;
            }
        }

        void putFour(int four) {
            put(four >>> 24);
            put((four >>> 16) & 255);
            put((four >>> 8) & 255);
            put(four & 255);
        }

        /** Writes a number from 0 to 9999. */
        void putNumber(int number) {
            for (int unit = 1000; unit >= 1; unit = unit / 10) {
                if (number >= unit || unit == 1) {
                    put('0' + (number / unit) % 10);
                }
            }
        }

        void shorten(int newLength) {
            length = newLength;
        }

        int byteAt(int index) {
            return index >= 0 && index < length && index < bytes.length ? bytes[index] : NONE;
        }

        boolean isName() {
            if (length < 1 || length > MOST_LETTERS) {
                return false;
            }
            for (int index = 0; index < length; index++) {
                if (!isLetter(byteAt(index))) {
                    return false;
                }
            }
            return true;
        }
    }

    /** A series with the sides of its sizes and their stacks. */
    private static final class Series {
        private final int[] letters = new int[MOST_LETTERS];
        private int letterCount;
        private final int[] wides = new int[SIZES];
        private final int[] highs = new int[SIZES];
        private final int[] stacks = new int[SIZES];

        void copyFrom(Series other) {
            letterCount = other.letterCount;
            System.arraycopy(other.letters, 0, letters, 0, MOST_LETTERS);
            System.arraycopy(other.wides, 0, wides, 0, SIZES);
            System.arraycopy(other.highs, 0, highs, 0, SIZES);
            System.arraycopy(other.stacks, 0, stacks, 0, SIZES);
        }

        void setName(Bytes text, int start, int length) {
            letterCount = Math.max(0, Math.min(MOST_LETTERS, length));
            for (int index = 0; index < letterCount; index++) {
                letters[index] = text.byteAt(start + index);
            }
        }

        boolean hasName(Bytes text, int start, int length) {
            if (length != letterCount) {
                return false;
            }
            for (int index = 0; index < letterCount; index++) {
                if (valueAt(letters, index) != text.byteAt(start + index)) {
                    return false;
                }
            }
            return true;
        }

        int letterAt(int index) {
            return index >= 0 && index < letterCount ? valueAt(letters, index) : NONE;
        }

        void setSides(int wide, int high) {
            int w = wide;
            int h = high;
            for (int n = 0; n < SIZES; n++) {
                wides[n] = w;
                highs[n] = h;
                stacks[n] = 0;
                if (h >= w) {
                    h = h / 2;
                } else {
                    w = w / 2;
                }
                if (w == 0 || h == 0) {
                    w = 0;
                    h = 0;
                }
            }
        }

        /** A size behind the last one counts as a void one. */
        boolean isVoid(int n) {
            return n < 0 || n >= SIZES || wides[n] == 0;
        }

        int wideAt(int n) {
            return n >= 0 && n < SIZES ? wides[n] : 0;
        }

        int highAt(int n) {
            return n >= 0 && n < SIZES ? highs[n] : 0;
        }

        int longerAt(int n) {
            return Math.max(wideAt(n), highAt(n));
        }

        int shorterAt(int n) {
            return Math.min(wideAt(n), highAt(n));
        }

        int areaAt(int n) {
            return n >= 0 && n < SIZES ? wides[n] * highs[n] : 0;
        }

        int sheetsAt(int n) {
            return n >= 0 && n < SIZES ? stacks[n] : 0;
        }

        void addSheets(int n, int sheets) {
            if (n >= 0 && n < SIZES) {
                stacks[n] += sheets;
            }
        }

        int stripAt(int n) {
            return isVoid(n + 1) ? NONE : areaAt(n) - 2 * areaAt(n + 1);
        }

        int supplyAt(int n) {
            if (isVoid(n)) {
                return 0;
            }
            int supply = 0;
            for (int ahead = 0; ahead <= n; ahead++) {
                supply = Math.min(MOST_SHEETS, sheetsAt(ahead) + 2 * supply);
            }
            return supply;
        }

        int foldsAt(int n) {
            if (isVoid(n)) {
                return NONE;
            }
            int folds = 0;
            while (folds < MOST_FOLDS && !isVoid(n + folds + 1)) {
                folds++;
            }
            return folds;
        }

        boolean fits(int n, int w, int h, int edge) {
            int wide = usable(wideAt(n), edge);
            int high = usable(highAt(n), edge);
            return (w <= wide && h <= high) || (w <= high && h <= wide);
        }

        /** The greatest edge with which a size fits a print; NONE if there is none. */
        int greatestEdgeAt(int n, int w, int h) {
            int wide = wideAt(n);
            int high = highAt(n);
            int room = Math.max(Math.min(wide - w, high - h), Math.min(high - w, wide - h));
            return room < 0 ? NONE : Math.min(MOST_EDGE, room / 2);
        }

        void writeTo(Bytes out) {
            for (int n = 0; n < SIZES; n++) {
                if (stacks[n] > 0) {
                    if (out.length > 0) {
                        out.put(BLANK);
                    }
                    for (int index = 0; index < letterCount; index++) {
                        out.put(letterAt(index));
                    }
                    out.putNumber(n);
                    out.put(COLON);
                    out.putNumber(stacks[n]);
                }
            }
        }
    }

    /** The different prints that were ordered, in the order of their first orders. */
    private static final class Prints {
        private final int[] ws = new int[MOST_PRINTS];
        private final int[] hs = new int[MOST_PRINTS];
        private final int[] numbers = new int[MOST_PRINTS];
        private int kept;

        void copyFrom(Prints other) {
            kept = other.kept;
            System.arraycopy(other.ws, 0, ws, 0, MOST_PRINTS);
            System.arraycopy(other.hs, 0, hs, 0, MOST_PRINTS);
            System.arraycopy(other.numbers, 0, numbers, 0, MOST_PRINTS);
        }

        void forget() {
            kept = 0;
        }

        int placeOf(int w, int h) {
            for (int place = 0; place < kept; place++) {
                if (valueAt(ws, place) == w && valueAt(hs, place) == h) {
                    return place;
                }
            }
            return NONE;
        }

        int numberOf(int w, int h) {
            return Math.max(0, tell(placeOf(w, h), 2));
        }

        int tell(int place, int what) {
            if (place < 0 || place >= kept) {
                return NONE;
            }
            if (what == 0) {
                return valueAt(ws, place);
            }
            return valueAt(what == 1 ? hs : numbers, place);
        }

        void note(int w, int h, int number) {
            int place = placeOf(w, h);
            if (place != NONE) {
                setAt(numbers, place, valueAt(numbers, place) + number);
            } else if (kept < MOST_PRINTS) {
                setAt(ws, kept, w);
                setAt(hs, kept, h);
                setAt(numbers, kept, number);
                kept++;
            }
        }
    }

    /** All that undo and saved states bring back. */
    private static final class Land {
        private int edge;
        private int ream;
        private int seriesCount;
        private final Series[] series = new Series[MOST_SERIES];
        private final Prints prints = new Prints();
        private final long[] accounts = new long[ACCOUNTS];

        Land() {
            for (int index = 0; index < MOST_SERIES; index++) {
                series[index] = new Series();
            }
        }

        void copyFrom(Land other) {
            edge = other.edge;
            ream = other.ream;
            seriesCount = other.seriesCount;
            for (int index = 0; index < MOST_SERIES && index < other.seriesCount; index++) {
                series[index].copyFrom(other.series[index]);
            }
            prints.copyFrom(other.prints);
            System.arraycopy(other.accounts, 0, accounts, 0, ACCOUNTS);
        }

        void begin() {
            seriesCount = 0;
            prints.forget();
            for (int what = 0; what < ACCOUNTS; what++) {
                accounts[what] = 0;
            }
        }

        boolean hasSeries(int index) {
            return index >= 0 && index < seriesCount && index < MOST_SERIES;
        }

        int seriesNamed(Bytes text, int start, int length) {
            for (int index = 0; index < MOST_SERIES && index < seriesCount; index++) {
                if (series[index].hasName(text, start, length)) {
                    return index;
                }
            }
            return NONE;
        }

        void addSeries(Bytes text, int start, int length, int wide, int high) {
            if (seriesCount < MOST_SERIES) {
                series[seriesCount].setName(text, start, length);
                series[seriesCount].setSides(wide, high);
                seriesCount++;
            }
        }

        int sheetsInAll() {
            int sheets = 0;
            for (int index = 0; index < MOST_SERIES && index < seriesCount; index++) {
                for (int n = 0; n < SIZES; n++) {
                    sheets += series[index].sheetsAt(n);
                }
            }
            return sheets;
        }

        int stacksInAll() {
            int stacks = 0;
            for (int index = 0; index < MOST_SERIES && index < seriesCount; index++) {
                for (int n = 0; n < SIZES; n++) {
                    stacks += series[index].sheetsAt(n) > 0 ? 1 : 0;
                }
            }
            return stacks;
        }

        long areaInAll() {
            long area = 0;
            for (int index = 0; index < MOST_SERIES && index < seriesCount; index++) {
                for (int n = 0; n < SIZES; n++) {
                    area += (long) series[index].areaAt(n) * series[index].sheetsAt(n);
                }
            }
            return area;
        }

        int greatestEdge(int w, int h) {
            int greatest = NONE;
            for (int index = 0; index < MOST_SERIES && index < seriesCount; index++) {
                for (int n = 0; n < SIZES; n++) {
                    greatest = Math.max(greatest, series[index].greatestEdgeAt(n, w, h));
                }
            }
            return greatest;
        }

        int refusalToBuy(int index, int n, int reams) {
            if (series[index].isVoid(n)) {
                return IS_VOID;
            }
            return series[index].sheetsAt(n) + reams * ream > MOST_SHEETS ? TOO_MANY : 0;
        }

        int takeIn(int index, int n, int reams) {
            Series of = series[index];
            of.addSheets(n, reams * ream);
            accounts[CAME] += (long) of.areaAt(n) * (reams * ream);
            accounts[REAMS] += reams;
            return of.sheetsAt(n);
        }

        int refusalToCut(int index, int n, int sheets) {
            Series of = series[index];
            if (of.isVoid(n + 1)) {
                return IS_VOID;
            }
            if (of.sheetsAt(n) < sheets) {
                return TOO_FEW;
            }
            return of.sheetsAt(n + 1) + 2 * sheets > MOST_SHEETS ? TOO_MANY : 0;
        }

        int cutUp(int index, int n, int sheets) {
            Series of = series[index];
            of.addSheets(n, -sheets);
            of.addSheets(n + 1, 2 * sheets);
            accounts[STRIPS] += (long) of.stripAt(n) * sheets;
            accounts[CUTS] += sheets;
            return of.sheetsAt(n + 1);
        }

        void fill(Plan plan) {
            Series of = series[plan.series];
            plan.cuts.doWith(of);
            of.addSheets(plan.n, -plan.number);
            accounts[PRINTED] += (long) (plan.w * plan.h) * plan.number;
            accounts[LEFT] += (long) plan.left * plan.number;
            accounts[STRIPS] += plan.cuts.strips;
            accounts[CUTS] += plan.cuts.total;
            accounts[ORDERS]++;
            accounts[WENT] += plan.number;
            prints.note(plan.w, plan.h, plan.number);
        }
    }

    /** What an order would do to a land: the nearest size and the cuts for it, or why there is none. */
    private static final class Plan {
        private final Cuts cuts = new Cuts();
        private int w;
        private int h;
        private int number;
        private int reason;
        private int series;
        private int n;
        private int left;
        private int sizesThatFit;
        private int greatestSupply;

        void make(Land land, int wantedW, int wantedH, int wantedNumber) {
            w = wantedW;
            h = wantedH;
            number = wantedNumber;
            series = NONE;
            n = NONE;
            left = 0;
            sizesThatFit = 0;
            greatestSupply = 0;
            for (int index = 0; index < MOST_SERIES && index < land.seriesCount; index++) {
                weighSeries(index, land.series[index], land.edge);
            }
            if (land.hasSeries(series)) {
                reason = 0;
                cuts.make(land.series[series], n, number);
            } else {
                reason = sizesThatFit == 0 ? 1 : 2;
            }
        }

        private void weighSeries(int index, Series of, int edge) {
            for (int size = 0; size < SIZES; size++) {
                if (of.fits(size, w, h, edge)) {
                    int supply = of.supplyAt(size);
                    int leftHere = of.areaAt(size) - w * h;
                    sizesThatFit++;
                    greatestSupply = Math.max(greatestSupply, supply);
                    if (supply >= number && isNearer(index, leftHere)) {
                        series = index;
                        n = size;
                        left = leftHere;
                    }
                }
            }
        }

        /** Of as near ones the lowest series counts, and in it the size that is looked at last. */
        private boolean isNearer(int index, int leftHere) {
            return series == NONE || leftHere < left || (leftHere == left && index == series);
        }

        int told() {
            return 100 * series + n;
        }
    }

    /** How many sheets of each size are cut so that there are enough of one size. */
    private static final class Cuts {
        private final int[] cutOf = new int[SIZES];
        private int total;
        private long strips;

        void make(Series of, int n, int sheets) {
            total = 0;
            strips = 0;
            for (int size = 0; size < SIZES; size++) {
                cutOf[size] = 0;
            }
            int needed = sheets;
            for (int size = Math.min(n, SIZES - 1); size > 0; size--) {
                // One by one as long as some are missing comes to this many, for each gives two.
                needed = (Math.max(0, needed - of.sheetsAt(size)) + 1) / 2;
                cutOf[size - 1] = needed;
                total += needed;
                strips += (long) of.stripAt(size - 1) * needed;
            }
        }

        int halvesOf(int n) {
            return n > 0 && n <= SIZES ? 2 * cutOf[n - 1] : 0;
        }

        void doWith(Series of) {
            for (int size = 0; size < SIZES; size++) {
                of.addSheets(size, halvesOf(size) - cutOf[size]);
            }
        }
    }

    /** The latest lands ahead of changes, in a ring. */
    private static final class History {
        private final Land[] lands = new Land[MOST_CHANGES];
        private int next;
        private int held;

        History() {
            for (int place = 0; place < MOST_CHANGES; place++) {
                lands[place] = new Land();
            }
        }

        void keep(Land land) {
            int place = Math.floorMod(next, MOST_CHANGES);
            lands[place].copyFrom(land);
            next = place + 1;
            held = Math.min(MOST_CHANGES, held + 1);
        }

        boolean giveBack(Land land) {
            if (held == 0) {
                return false;
            }
            int place = Math.floorMod(next - 1, MOST_CHANGES);
            land.copyFrom(lands[place]);
            next = place;
            held--;
            return true;
        }

        void forget() {
            held = 0;
        }
    }

    /** Goes through the text token by token, and keeps the error of the latest reading. */
    private static final class Reader {
        static final int END = 0;
        static final int WORD = 1;
        static final int NUMBER = 2;
        static final int OTHER = 3;

        /* Above every range, and far below a wrap-around when a digit comes behind it. */
        private static final int GREAT = 1000000;

        private final Bytes text;
        private int kind;
        private int start;
        private int end;
        private int value;
        private int faultCode;
        private int faultPosition = NONE;

        Reader(Bytes text) {
            this.text = text;
        }

        void begin() {
            faultCode = 0;
            faultPosition = NONE;
            end = 0;
            advance();
        }

        /** Goes to the next token; the bytes that stand for no token come one by one. */
        void advance() {
            while (end < text.length && isBlank(text.byteAt(end))) {
                end++;
            }
            start = end;
            value = text.byteAt(start);
            if (value == NONE) {
                kind = END;
            } else if (isLetter(value)) {
                kind = WORD;
                while (end < text.length && isLetter(text.byteAt(end))) {
                    end++;
                }
            } else if (isDigit(value)) {
                kind = NUMBER;
                value = 0;
                while (end < text.length && isDigit(text.byteAt(end))) {
                    value = Math.min(GREAT, 10 * value + text.byteAt(end) - '0');
                    end++;
                }
            } else {
                kind = OTHER;
                end++;
            }
        }

        /** Always false, so that a reader of a part can end with it. */
        boolean fail(int code) {
            faultCode = code;
            faultPosition = start;
            return false;
        }

        boolean isWord(String word) {
            if (kind != WORD || end - start != word.length()) {
                return false;
            }
            for (int index = 0; index < word.length(); index++) {
                if (text.byteAt(start + index) != word.charAt(index)) {
                    return false;
                }
            }
            return true;
        }

        boolean isSign(char sign) {
            return kind == OTHER && value == sign;
        }

        boolean takeSign(char sign) {
            if (!isSign(sign)) {
                return fail(NOT_ALLOWED);
            }
            advance();
            return true;
        }

        /** Whether the token is a name; if not, its error is kept. */
        boolean seesName() {
            if (kind != WORD) {
                return fail(NOT_ALLOWED);
            }
            return end - start <= MOST_LETTERS || fail(OUT_OF_RANGE);
        }

        /** Whether the token is a number in a range; if not, its error is kept. */
        boolean seesNumber(int least, int most) {
            if (kind != NUMBER) {
                return fail(NOT_ALLOWED);
            }
            return (value >= least && value <= most) || fail(OUT_OF_RANGE);
        }
    }

    /** Reads a setup. */
    private static final class SetupReader {
        private final Reader reader;
        private final boolean[] isTold = new boolean[SIZES];

        SetupReader(Reader reader) {
            this.reader = reader;
        }

        /** Whether the text is a setup; the land holds it then. */
        boolean readInto(Land land) {
            reader.begin();
            land.begin();
            if (!readHead(land)) {
                return false;
            }
            // One more than there may be, for the word of that one is an error.
            for (int index = 0; index <= MOST_SERIES && reader.kind != Reader.END; index++) {
                if (!reader.takeSign(';') || !readSeries(land)) {
                    return false;
                }
            }
            land.accounts[CAME] = land.areaInAll();
            return true;
        }

        private boolean readHead(Land land) {
            if (!reader.isWord("land")) {
                return reader.fail(NOT_ALLOWED);
            }
            reader.advance();
            if (!reader.seesNumber(0, MOST_EDGE)) {
                return false;
            }
            land.edge = reader.value;
            reader.advance();
            if (!reader.seesNumber(1, MOST_REAM)) {
                return false;
            }
            land.ream = reader.value;
            reader.advance();
            return true;
        }

        private boolean readSeries(Land land) {
            if (!reader.isWord("series")) {
                return reader.fail(NOT_ALLOWED);
            }
            if (land.seriesCount >= MOST_SERIES) {
                return reader.fail(OVER_LIMIT);
            }
            Series of = land.series[land.seriesCount];
            reader.advance();
            if (!reader.seesName()) {
                return false;
            }
            int start = reader.start;
            int length = reader.end - start;
            if (land.seriesNamed(reader.text, start, length) != NONE) {
                return reader.fail(TOLD_BEFORE);
            }
            reader.advance();
            if (!reader.seesNumber(1, MOST_SIDE)) {
                return false;
            }
            int wide = reader.value;
            reader.advance();
            if (!reader.seesNumber(1, MOST_SIDE)) {
                return false;
            }
            land.addSeries(reader.text, start, length, wide, reader.value);
            reader.advance();
            return readSizes(of);
        }

        private boolean readSizes(Series of) {
            for (int n = 0; n < SIZES; n++) {
                isTold[n] = false;
            }
            // One more than there are, for its number was told before.
            for (int index = 0; index <= SIZES && reader.isWord("size"); index++) {
                reader.advance();
                if (!readStack(of)) {
                    return false;
                }
            }
            return true;
        }

        private boolean readStack(Series of) {
            if (!reader.seesNumber(0, SIZES - 1)) {
                return false;
            }
            int n = reader.value;
            if (isTold[n] || of.isVoid(n)) {
                return reader.fail(TOLD_BEFORE);
            }
            isTold[n] = true;
            reader.advance();
            if (!reader.seesNumber(0, MOST_SHEETS)) {
                return false;
            }
            of.addSheets(n, reader.value);
            reader.advance();
            return true;
        }
    }

    /** The orders of a script in the order of their words; those in brackets stand behind their "again". */
    private static final class Script {
        static final int BUY = 0;
        static final int CUT = 1;
        static final int ORDER = 2;
        static final int EDGE = 3;
        static final int REAM = 4;
        static final int AGAIN = 5;

        private final int[] kinds = new int[MOST_ORDERS];
        private final int[] firsts = new int[MOST_ORDERS];
        private final int[] seconds = new int[MOST_ORDERS];
        private final int[] thirds = new int[MOST_ORDERS];
        private final int[] ends = new int[MOST_ORDERS];
        private int total;

        private boolean isPlace(int at) {
            return at >= 0 && at < total && at < MOST_ORDERS;
        }

        int kindAt(int at) {
            return isPlace(at) ? kinds[at] : AGAIN;
        }

        int firstAt(int at) {
            return isPlace(at) ? firsts[at] : 0;
        }

        int secondAt(int at) {
            return isPlace(at) ? seconds[at] : 0;
        }

        int thirdAt(int at) {
            return isPlace(at) ? thirds[at] : 0;
        }

        /** The place behind an order, with what is in its brackets. */
        int endAt(int at) {
            return isPlace(at) ? ends[at] : at + 1;
        }

        boolean isIdleAt(int at) {
            for (int inside = at + 1; inside < endAt(at); inside++) {
                if (kindAt(inside) != AGAIN) {
                    return false;
                }
            }
            return true;
        }

        /** Whether the text is a script, which is held then. */
        boolean readFrom(Reader reader, Land land) {
            total = 0;
            reader.begin();
            return readOrders(reader, land, 0);
        }

        /** Reads orders up to the end of the text, or the bracket that ends those of an "again". */
        private boolean readOrders(Reader reader, Land land, int depth) {
            // One more than there may be, for the word of that one is an error.
            for (int index = 0; index <= MOST_ORDERS; index++) {
                if (depth == 0 ? reader.kind == Reader.END : reader.isSign(')')) {
                    return true;
                }
                if (!readOrder(reader, land, depth) || !reader.takeSign(';')) {
                    return false;
                }
            }
            return reader.fail(OVER_LIMIT);
        }

        private boolean readOrder(Reader reader, Land land, int depth) {
            int kind = kindOfWord(reader);
            if (kind == NONE) {
                return reader.fail(NOT_ALLOWED);
            }
            if (total >= MOST_ORDERS || (kind == AGAIN && depth >= MOST_AGAINS)) {
                return reader.fail(OVER_LIMIT);
            }
            int at = total;
            kinds[at] = kind;
            firsts[at] = 0;
            seconds[at] = 0;
            thirds[at] = 0;
            ends[at] = at + 1;
            total++;
            reader.advance();
            switch (kind) {
                case BUY:
                    return readStackOrder(reader, land, at, 1, MOST_REAMS);
                case CUT:
                    return readStackOrder(reader, land, at, 1, MOST_SHEETS);
                case ORDER:
                    return readNumber(reader, firsts, at, 1, MOST_SIDE)
                        && readNumber(reader, seconds, at, 1, MOST_SIDE)
                        && readNumber(reader, thirds, at, 1, MOST_NUMBER);
                case EDGE:
                    return readNumber(reader, firsts, at, 0, MOST_EDGE);
                case REAM:
                    return readNumber(reader, firsts, at, 1, MOST_REAM);
                default:
                    return readAgain(reader, land, at, depth);
            }
        }

        private static int kindOfWord(Reader reader) {
            if (reader.isWord("buy")) {
                return BUY;
            }
            if (reader.isWord("cut")) {
                return CUT;
            }
            if (reader.isWord("order")) {
                return ORDER;
            }
            if (reader.isWord("edge")) {
                return EDGE;
            }
            if (reader.isWord("ream")) {
                return REAM;
            }
            return reader.isWord("again") ? AGAIN : NONE;
        }

        /** No order of a script brings a series, so its name can be looked up at once. */
        private boolean readStackOrder(Reader reader, Land land, int at, int least, int most) {
            if (!reader.seesName()) {
                return false;
            }
            setAt(firsts, at, land.seriesNamed(reader.text, reader.start, reader.end - reader.start));
            reader.advance();
            return readNumber(reader, seconds, at, 0, SIZES - 1) && readNumber(reader, thirds, at, least, most);
        }

        private boolean readAgain(Reader reader, Land land, int at, int depth) {
            if (!readNumber(reader, firsts, at, 1, MOST_TIMES) || !reader.takeSign('(')
                || !readOrders(reader, land, depth + 1) || !reader.takeSign(')')) {
                return false;
            }
            setAt(ends, at, total);
            return true;
        }

        private static boolean readNumber(Reader reader, int[] row, int at, int least, int most) {
            if (!reader.seesNumber(least, most)) {
                return false;
            }
            setAt(row, at, reader.value);
            reader.advance();
            return true;
        }
    }

    /** The pages of a sheet that is folded. A side is told by 2 times its cell, plus 1 for the back. */
    private static final class Folding {
        private int rows;
        private int columns;
        private int folds;
        private final boolean[] isHighFold = new boolean[MOST_FOLDS];
        private final int[] pile = new int[MOST_CELLS];
        private final int[] laid = new int[MOST_CELLS];
        private final int[] pages = new int[2 * MOST_CELLS];

        void foldUp(Series of, int n, int times) {
            folds = Math.max(0, Math.min(MOST_FOLDS, times));
            rows = 1;
            columns = 1;
            for (int fold = 0; fold < folds; fold++) {
                isHighFold[fold] = of.highAt(n + fold) >= of.wideAt(n + fold);
                if (isHighFold[fold]) {
                    rows = 2 * rows;
                } else {
                    columns = 2 * columns;
                }
            }
            pileUp();
            numberPages();
        }

        /** Lays the places on one another, fold by fold; at last the sides that are up stand in the pile. */
        private void pileUp() {
            for (int cell = 0; cell < rows * columns; cell++) {
                setAt(pile, cell, 2 * cell);
            }
            int down = rows;
            int across = columns;
            int height = 1;
            for (int fold = 0; fold < MOST_FOLDS && fold < folds; fold++) {
                if (isHighFold[fold]) {
                    down = down / 2;
                } else {
                    across = across / 2;
                }
                for (int row = 0; row < down; row++) {
                    for (int column = 0; column < across; column++) {
                        layPlace(row, column, down, across, height, isHighFold[fold]);
                    }
                }
                height = 2 * height;
                System.arraycopy(laid, 0, pile, 0, MOST_CELLS);
            }
        }

        /** Lays what comes from the other half, turned over, above what lies at a place of those that stay. */
        private void layPlace(int row, int column, int down, int across, int height, boolean isHigh) {
            int acrossBefore = isHigh ? across : 2 * across;
            int stays = (row * acrossBefore + column) * height;
            int comes = isHigh
                ? ((2 * down - 1 - row) * acrossBefore + column) * height
                : (row * acrossBefore + acrossBefore - 1 - column) * height;
            int top = (row * across + column) * 2 * height;
            for (int leaf = 0; leaf < height; leaf++) {
                setAt(laid, top + leaf, valueAt(pile, comes + height - 1 - leaf) ^ 1);
                setAt(laid, top + height + leaf, valueAt(pile, stays + leaf));
            }
        }

        private void numberPages() {
            for (int leaf = 0; leaf < rows * columns; leaf++) {
                int sideUp = valueAt(pile, leaf);
                setAt(pages, sideUp, 2 * leaf + 1);
                setAt(pages, sideUp ^ 1, 2 * leaf + 2);
            }
        }

        boolean hasCell(int row, int column) {
            return row >= 0 && row < rows && column >= 0 && column < columns;
        }

        int pageAt(int row, int column, boolean isBack) {
            return valueAt(pages, 2 * (row * columns + column) + (isBack ? 1 : 0));
        }

        /** The cell with a page, told as cellOf tells it; NONE if there is no such page. */
        int cellWith(int page) {
            for (int row = 0; row < rows; row++) {
                for (int column = 0; column < columns; column++) {
                    if (pageAt(row, column, false) == page) {
                        return 200 * row + 2 * column;
                    }
                    if (pageAt(row, column, true) == page) {
                        return 200 * row + 2 * column + 1;
                    }
                }
            }
            return NONE;
        }

        int cellsWithOtherPages() {
            int cells = 0;
            for (int row = 0; row < rows; row++) {
                for (int column = 0; column < columns; column++) {
                    int page = frontPageByItself(row, column);
                    int otherPage = page % 2 == 1 ? page + 1 : page - 1;
                    if (pageAt(row, column, false) != page || pageAt(row, column, true) != otherPage) {
                        cells++;
                    }
                }
            }
            return cells;
        }

        /** Follows one cell alone through the folds: its place, its leaf there, and whether its front is up. */
        private int frontPageByItself(int cellRow, int cellColumn) {
            int row = cellRow;
            int column = cellColumn;
            int down = rows;
            int across = columns;
            int height = 1;
            int leaf = 0;
            boolean isFrontUp = true;
            for (int fold = 0; fold < MOST_FOLDS && fold < folds; fold++) {
                boolean isTurned;
                if (isHighFold[fold]) {
                    isTurned = row >= down / 2;
                    row = isTurned ? down - 1 - row : row;
                    down = down / 2;
                } else {
                    isTurned = column >= across / 2;
                    column = isTurned ? across - 1 - column : column;
                    across = across / 2;
                }
                leaf = isTurned ? height - 1 - leaf : height + leaf;
                isFrontUp = isFrontUp != isTurned;
                height = 2 * height;
            }
            return isFrontUp ? 2 * leaf + 1 : 2 * leaf + 2;
        }
    }
}
