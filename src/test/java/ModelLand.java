import java.nio.charset.StandardCharsets;
import java.util.ArrayDeque;
import java.util.ArrayList;
import java.util.Arrays;
import java.util.Deque;
import java.util.HashSet;
import java.util.LinkedHashMap;
import java.util.List;
import java.util.Map;
import java.util.Set;
import java.util.regex.Matcher;
import java.util.regex.Pattern;

/**
 * The document once more, written for plainness alone: states are copied whole, orders are
 * filled sheet by sheet, leaves are laid one by one. PaperLand is compared with it.
 */
final class ModelLand {
    private static final int NONE = -1;
    private static final long TOP = 2147483647L;

    private static final class Series {
        String name;
        int wide;
        int high;
        int[] sheets = new int[10];

        Series copy() {
            Series copy = new Series();
            copy.name = name;
            copy.wide = wide;
            copy.high = high;
            copy.sheets = sheets.clone();
            return copy;
        }

        /** WIDE and HIGH of a size. */
        int[] sides(int n) {
            if (n == 0) {
                return new int[] {wide, high};
            }
            int[] ahead = sides(n - 1);
            int[] mine = ahead[0] > ahead[1]
                ? new int[] {ahead[0] / 2, ahead[1]}
                : new int[] {ahead[0], ahead[1] / 2};
            return mine[0] == 0 || mine[1] == 0 ? new int[] {0, 0} : mine;
        }

        boolean isVoid(int n) {
            return sides(n)[0] == 0;
        }

        boolean isVoidToCut(int n) {
            return n == 9 || isVoid(n + 1);
        }

        int area(int n) {
            return sides(n)[0] * sides(n)[1];
        }

        int strip(int n) {
            return area(n) - 2 * area(n + 1);
        }

        int supply(int n) {
            if (isVoid(n)) {
                return 0;
            }
            return Math.min(9999, sheets[n] + (n > 0 ? 2 * supply(n - 1) : 0));
        }

        int folds(int n) {
            int folds = 0;
            while (folds < 5 && n + folds + 1 <= 9 && !isVoid(n + folds + 1)) {
                folds++;
            }
            return isVoid(n) ? NONE : folds;
        }
    }

    private static final class State {
        int edge;
        int ream;
        List<Series> series = new ArrayList<>();
        Map<List<Integer>, Integer> prints = new LinkedHashMap<>();
        long[] accounts = new long[8];

        State copy() {
            State copy = new State();
            copy.edge = edge;
            copy.ream = ream;
            for (Series s : series) {
                copy.series.add(s.copy());
            }
            copy.prints.putAll(prints);
            copy.accounts = accounts.clone();
            return copy;
        }

        Series named(String name) {
            for (Series s : series) {
                if (s.name.equals(name)) {
                    return s;
                }
            }
            return null;
        }

        long allArea() {
            long area = 0;
            for (Series s : series) {
                for (int n = 0; n < 10; n++) {
                    area += (long) s.area(n) * s.sheets[n];
                }
            }
            return area;
        }

        int usable(int side) {
            return Math.max(0, side - 2 * edge);
        }

        boolean fits(Series s, int n, int w, int h) {
            int uw = usable(s.sides(n)[0]);
            int uh = usable(s.sides(n)[1]);
            return w <= uw && h <= uh || w <= uh && h <= uw;
        }
    }

    private static final class ParseError extends Exception {
        private static final long serialVersionUID = 1L;
        final int code;
        final int position;

        ParseError(int code, int position) {
            this.code = code;
            this.position = position;
        }
    }

    private record Token(String text, int position) {
        boolean isWord() {
            return text.matches("[a-z]+");
        }

        boolean isNumber() {
            return text.matches("[0-9]+");
        }
    }

    private record Order(String word, String name, int[] numbers, List<Order> inside) { }

    private State state = new State();
    private final StringBuilder text = new StringBuilder();
    private String written = "";
    private int errorCode;
    private int errorPosition = NONE;
    private final Deque<State> past = new ArrayDeque<>();
    private final State[] saved = new State[2];
    private final int[] refusals = new int[8];

    ModelLand() {
        text.append("land 3 50; series royal 100 141 size 0 10 size 2 3; series long 60 200 size 0 4");
        load();
    }

    // ---- the text

    int append(int a, int b, int c, int d, int e) {
        if (text.length() + 20 > 600) {
            throw new IllegalStateException();
        }
        byte[] bytes = new byte[20];
        java.nio.ByteBuffer.wrap(bytes).putInt(a).putInt(b).putInt(c).putInt(d).putInt(e);
        text.append(new String(bytes, StandardCharsets.ISO_8859_1));
        return text.length();
    }

    int truncate(int length) {
        require(length >= 0 && length <= text.length());
        text.setLength(length);
        return length;
    }

    int load() {
        State loaded = new State();
        try {
            readSetup(loaded);
        } catch (ParseError error) {
            return failed(error);
        }
        succeeded();
        loaded.accounts[0] = loaded.allArea();
        state = loaded;
        past.clear();
        Arrays.fill(saved, null);
        Arrays.fill(refusals, 0);
        return state.series.size();
    }

    int play() {
        List<Order> orders;
        try {
            total = 0;
            startTokens();
            orders = readScript(0);
        } catch (ParseError error) {
            return failed(error);
        }
        succeeded();
        keep();
        done = 0;
        run(orders);
        return done;
    }

    private int failed(ParseError error) {
        errorCode = error.code;
        errorPosition = error.position;
        text.setLength(0);
        return NONE;
    }

    private void succeeded() {
        errorCode = 0;
        errorPosition = NONE;
        text.setLength(0);
    }

    int errorCode() {
        return errorCode;
    }

    int errorPosition() {
        return errorPosition;
    }

    private List<Token> tokens;
    private int next;
    private int total;
    private int done;

    private void startTokens() {
        tokens = new ArrayList<>();
        next = 0;
        Matcher m = Pattern.compile("[ \n]+|[a-z]+|[0-9]+|(?s:.)").matcher(text);
        while (m.find()) {
            if (!m.group().matches("[ \n]+")) {
                tokens.add(new Token(m.group(), m.start()));
            }
        }
        tokens.add(new Token("", text.length()));
    }

    private Token peek() {
        return tokens.get(next);
    }

    private Token take(String wanted) throws ParseError {
        Token token = tokens.get(next);
        if (!token.text.equals(wanted)) {
            throw new ParseError(1, token.position);
        }
        next++;
        return token;
    }

    private int takeNumber(int least, int most) throws ParseError {
        Token token = tokens.get(next);
        if (!token.isNumber()) {
            throw new ParseError(1, token.position);
        }
        java.math.BigInteger number = new java.math.BigInteger(token.text);
        if (number.bitLength() > 31 || number.intValue() < least || number.intValue() > most) {
            throw new ParseError(2, token.position);
        }
        next++;
        return number.intValue();
    }

    private Token takeName() throws ParseError {
        Token token = tokens.get(next);
        if (!token.isWord()) {
            throw new ParseError(1, token.position);
        }
        if (token.text.length() > 6) {
            throw new ParseError(2, token.position);
        }
        next++;
        return token;
    }

    private void readSetup(State into) throws ParseError {
        startTokens();
        take("land");
        into.edge = takeNumber(0, 50);
        into.ream = takeNumber(1, 500);
        while (!peek().text.isEmpty()) {
            take(";");
            Token word = take("series");
            if (into.series.size() == 5) {
                throw new ParseError(4, word.position);
            }
            Series series = new Series();
            Token name = takeName();
            if (into.named(name.text) != null) {
                throw new ParseError(3, name.position);
            }
            series.name = name.text;
            series.wide = takeNumber(1, 2000);
            series.high = takeNumber(1, 2000);
            into.series.add(series);
            Set<Integer> told = new HashSet<>();
            while (peek().text.equals("size")) {
                next++;
                int position = peek().position;
                int n = takeNumber(0, 9);
                if (!told.add(n) || series.isVoid(n)) {
                    throw new ParseError(3, position);
                }
                series.sheets[n] = takeNumber(0, 9999);
            }
        }
    }

    private List<Order> readScript(int agains) throws ParseError {
        List<Order> orders = new ArrayList<>();
        while (!peek().text.equals(agains == 0 ? "" : ")")) {
            Token word = peek();
            if (!Set.of("buy", "cut", "order", "edge", "ream", "again").contains(word.text)) {
                throw new ParseError(1, word.position);
            }
            total++;
            if (total > 30 || word.text.equals("again") && agains == 3) {
                throw new ParseError(4, word.position);
            }
            next++;
            orders.add(readOrder(word.text, agains));
            take(";");
        }
        return orders;
    }

    private Order readOrder(String word, int agains) throws ParseError {
        switch (word) {
            case "buy": {
                String name = takeName().text;
                int n = takeNumber(0, 9);
                return new Order(word, name, new int[] {n, takeNumber(1, 99)}, null);
            }
            case "cut": {
                String name = takeName().text;
                int n = takeNumber(0, 9);
                return new Order(word, name, new int[] {n, takeNumber(1, 9999)}, null);
            }
            case "order": {
                int w = takeNumber(1, 2000);
                int h = takeNumber(1, 2000);
                return new Order(word, null, new int[] {w, h, takeNumber(1, 999)}, null);
            }
            case "edge":
                return new Order(word, null, new int[] {takeNumber(0, 50)}, null);
            case "ream":
                return new Order(word, null, new int[] {takeNumber(1, 500)}, null);
            default: {
                int times = takeNumber(1, 20);
                take("(");
                List<Order> inside = readScript(agains + 1);
                take(")");
                return new Order(word, null, new int[] {times}, inside);
            }
        }
    }

    private boolean run(List<Order> orders) {
        for (Order order : orders) {
            if (order.inside == null) {
                if (done == 40 || isRefused(order)) {
                    return false;
                }
                done++;
            } else {
                for (int time = 0; time < order.numbers[0]; time++) {
                    if (!run(order.inside)) {
                        return false;
                    }
                }
            }
        }
        return true;
    }

    private boolean isRefused(Order order) {
        int[] a = order.numbers;
        switch (order.word) {
            case "buy":
            case "cut":
                Series series = state.named(order.name);
                if (series == null) {
                    return refuse(-2) < NONE;
                }
                int answer = order.word.equals("buy") ? tryBuy(series, a[0], a[1]) : tryCut(series, a[0], a[1]);
                return answer < NONE;
            case "order":
                return tryOrder(a[0], a[1], a[2]) < NONE;
            case "edge":
                state.edge = a[0];
                return false;
            default:
                state.ream = a[0];
                return false;
        }
    }

    // ---- series, sizes, stacks

    int count(int what) {
        require(what >= 0 && what <= 6);
        int sheets = 0;
        int stacks = 0;
        for (Series s : state.series) {
            for (int pile : s.sheets) {
                sheets += pile;
                stacks += Integer.signum(pile);
            }
        }
        return new int[] {state.series.size(), sheets, stacks, state.edge, state.ream, state.prints.size(),
            past.size()}[what];
    }

    int letter(int series, int index) {
        String name = seriesAt(series).name;
        return index >= 0 && index < name.length() ? name.charAt(index) : NONE;
    }

    int size(int series, int n, int what) {
        Series s = sizeAt(series, n);
        require(what >= 0 && what <= 9);
        int[] sides = s.sides(n);
        return new int[] {sides[0], sides[1], s.area(n), s.sheets[n], s.sheets[n] / state.ream,
            s.isVoidToCut(n) ? NONE : s.strip(n), state.usable(sides[0]), state.usable(sides[1]), s.supply(n),
            s.isVoid(n) ? 1 : 0}[what];
    }

    int sizes(int series) {
        Series s = seriesAt(series);
        int sizes = 0;
        while (sizes < 10 && !s.isVoid(sizes)) {
            sizes++;
        }
        return sizes;
    }

    boolean isAlike(int series, int n, int other, int m) {
        int[] one = sizeAt(series, n).sides(n).clone();
        int[] two = sizeAt(other, m).sides(m).clone();
        Arrays.sort(one);
        Arrays.sort(two);
        return one[0] > 0 && two[0] > 0 && one[1] * two[0] == one[0] * two[1];
    }

    double ratio(int series, int n) {
        int[] sides = sizeAt(series, n).sides(n).clone();
        Arrays.sort(sides);
        return sides[0] == 0 ? 0.0 : (double) sides[1] / sides[0];
    }

    int ordered(int w, int h) {
        require(isSide(w) && isSide(h));
        return state.prints.getOrDefault(List.of(w, h), 0);
    }

    int print(int place, int what) {
        require(what >= 0 && what <= 2);
        if (place < 0 || place >= state.prints.size()) {
            return NONE;
        }
        Map.Entry<List<Integer>, Integer> entry = new ArrayList<>(state.prints.entrySet()).get(place);
        return what == 2 ? entry.getValue() : entry.getKey().get(what);
    }

    int account(int what) {
        require(what >= 0 && what <= 7);
        return (int) Math.min(TOP, state.accounts[what]);
    }

    int refused(int code) {
        require(code >= -7 && code <= -2);
        return refusals[-code];
    }

    long gap() {
        long[] a = state.accounts;
        return Math.abs(a[0] - a[1] - a[2] - a[3] - state.allArea());
    }

    int lostBits() {
        long[] a = state.accounts;
        return a[0] == 0 ? 0 : Float.floatToIntBits((float) (a[2] + a[3]) / (float) a[0]);
    }

    // ---- folds

    private record Leaf(int row, int column, boolean isFrontUp) { }

    /** The leaves of a folded sheet, the uppermost one first. */
    private static List<Leaf> fold(Series s, int n, int folds) {
        int[] grid = gridOf(s, n, folds);
        List<List<List<Leaf>>> places = new ArrayList<>();
        for (int row = 0; row < grid[0]; row++) {
            places.add(new ArrayList<>());
            for (int column = 0; column < grid[1]; column++) {
                places.get(row).add(List.of(new Leaf(row, column, true)));
            }
        }
        for (int k = 0; k < folds; k++) {
            int[] sides = s.sides(n + k);
            if (sides[1] >= sides[0]) {
                places = foldHigh(places);
            } else {
                places = turned(foldHigh(turned(places)));
            }
        }
        return places.get(0).get(0);
    }

    private static List<List<List<Leaf>>> foldHigh(List<List<List<Leaf>>> places) {
        List<List<List<Leaf>>> upper = new ArrayList<>();
        int rows = places.size();
        for (int row = 0; row < rows / 2; row++) {
            List<List<Leaf>> line = new ArrayList<>();
            for (int column = 0; column < places.get(row).size(); column++) {
                List<Leaf> pile = new ArrayList<>();
                for (Leaf leaf : places.get(rows - 1 - row).get(column)) {
                    pile.add(0, new Leaf(leaf.row, leaf.column, !leaf.isFrontUp));
                }
                pile.addAll(places.get(row).get(column));
                line.add(pile);
            }
            upper.add(line);
        }
        return upper;
    }

    private static List<List<List<Leaf>>> turned(List<List<List<Leaf>>> places) {
        List<List<List<Leaf>>> lines = new ArrayList<>();
        for (int column = 0; column < places.get(0).size(); column++) {
            List<List<Leaf>> line = new ArrayList<>();
            for (List<List<Leaf>> row : places) {
                line.add(row.get(column));
            }
            lines.add(line);
        }
        return lines;
    }

    private static int[] gridOf(Series s, int n, int folds) {
        int[] grid = {1, 1};
        for (int k = 0; k < folds; k++) {
            int[] sides = s.sides(n + k);
            grid[sides[1] >= sides[0] ? 0 : 1] *= 2;
        }
        return grid;
    }

    private Series foldable(int series, int n, int folds) {
        Series s = sizeAt(series, n);
        require(folds >= 0 && folds <= s.folds(n));
        return s;
    }

    private static int pageOf(Series s, int n, int folds, int row, int column, boolean isBack) {
        List<Leaf> leaves = fold(s, n, folds);
        for (int k = 0; k < leaves.size(); k++) {
            Leaf leaf = leaves.get(k);
            if (leaf.row == row && leaf.column == column) {
                return leaf.isFrontUp != isBack ? 2 * k + 1 : 2 * k + 2;
            }
        }
        throw new IndexOutOfBoundsException();
    }

    int mostFolds(int series, int n) {
        return sizeAt(series, n).folds(n);
    }

    int grid(int series, int n, int folds, boolean isColumns) {
        return gridOf(foldable(series, n, folds), n, folds)[isColumns ? 1 : 0];
    }

    int page(int series, int n, int folds, int row, int column, boolean isBack) {
        return pageOf(foldable(series, n, folds), n, folds, row, column, isBack);
    }

    int cellOf(int series, int n, int folds, int page) {
        List<Leaf> leaves = fold(foldable(series, n, folds), n, folds);
        if (page < 1 || page > 2 * leaves.size()) {
            throw new IndexOutOfBoundsException();
        }
        Leaf leaf = leaves.get((page - 1) / 2);
        boolean isUp = page % 2 == 1;
        return 200 * leaf.row + 2 * leaf.column + (isUp == leaf.isFrontUp ? 0 : 1);
    }

    int pageGap(int series, int n, int folds) {
        foldable(series, n, folds);
        return 0;
    }

    // ---- orders to come

    private List<int[]> thoseThatFit(int w, int h) {
        List<int[]> fitting = new ArrayList<>();
        for (int s = 0; s < state.series.size(); s++) {
            for (int n = 0; n < 10; n++) {
                if (state.fits(state.series.get(s), n, w, h)) {
                    fitting.add(new int[] {s, n});
                }
            }
        }
        return fitting;
    }

    private int supplyOf(int[] size) {
        return state.series.get(size[0]).supply(size[1]);
    }

    private int leftOf(int[] size, int w, int h) {
        return state.series.get(size[0]).area(size[1]) - w * h;
    }

    private int[] nearestOf(int w, int h, int number) {
        List<int[]> able = new ArrayList<>();
        for (int[] size : thoseThatFit(w, h)) {
            if (supplyOf(size) >= number) {
                able.add(size);
            }
        }
        able.sort((a, b) -> leftOf(a, w, h) != leftOf(b, w, h) ? leftOf(a, w, h) - leftOf(b, w, h)
            : a[0] != b[0] ? a[0] - b[0] : b[1] - a[1]);
        return able.isEmpty() ? null : able.get(0);
    }

    private int reason(int w, int h, int number) {
        if (thoseThatFit(w, h).isEmpty()) {
            return 1;
        }
        return nearestOf(w, h, number) == null ? 2 : 0;
    }

    int fitting(int w, int h) {
        require(isSide(w) && isSide(h));
        return thoseThatFit(w, h).size();
    }

    int nearest(int w, int h, int number) {
        require(isOrder(w, h, number));
        int[] size = nearestOf(w, h, number);
        return size == null ? NONE : 100 * size[0] + size[1];
    }

    int whyNot(int w, int h, int number, int depth) {
        require(isOrder(w, h, number) && depth >= 0 && depth <= 1);
        int reason = reason(w, h, number);
        if (depth == 0) {
            return reason;
        }
        int cause = NONE;
        if (reason == 1) {
            State other = state;
            for (int edge = 0; edge <= 50; edge++) {
                state = other.copy();
                state.edge = edge;
                if (!thoseThatFit(w, h).isEmpty()) {
                    cause = edge;
                }
            }
            state = other;
        }
        if (reason == 2) {
            for (int[] size : thoseThatFit(w, h)) {
                cause = Math.max(cause, supplyOf(size));
            }
        }
        return cause;
    }

    int ifOrder(int w, int h, int number, int what) {
        require(isOrder(w, h, number) && what >= 0 && what <= 3);
        int[] size = nearestOf(w, h, number);
        if (size == null) {
            return NONE;
        }
        State other = state;
        state = other.copy();
        tryOrder(w, h, number);
        long[] then = state.accounts;
        int left = state.series.get(size[0]).sheets[size[1]];
        state = other;
        long[] now = state.accounts;
        long[] answers = {then[4] - now[4], then[3] - now[3], then[2] - now[2], left};
        return (int) Math.min(TOP, answers[what]);
    }

    int mostOf(int w, int h) {
        require(isSide(w) && isSide(h));
        int number = 999;
        while (number > 0 && reason(w, h, number) != 0) {
            number--;
        }
        return number;
    }

    int cutsFor(int series, int n, int sheets) {
        Series s = sizeAt(series, n);
        require(sheets >= 0 && sheets <= 9999);
        if (s.supply(n) < sheets) {
            return NONE;
        }
        State other = state;
        state = other.copy();
        provide(state.series.get(series), n, sheets);
        long cuts = state.accounts[4] - other.accounts[4];
        state = other;
        return (int) cuts;
    }

    // ---- changes

    int found(int wide, int high) {
        require(isSide(wide) && isSide(high));
        String name = text.toString();
        if (state.series.size() == 5 || state.named(name) != null || !name.matches("\\A[a-z]{1,6}\\z")) {
            return NONE;
        }
        keep();
        Series series = new Series();
        series.name = name;
        series.wide = wide;
        series.high = high;
        state.series.add(series);
        text.setLength(0);
        return state.series.size() - 1;
    }

    int buy(int series, int n, int reams) {
        sizeAt(series, n);
        require(reams >= 1 && reams <= 99);
        State before = state.copy();
        return keepUnlessRefused(before, tryBuy(state.series.get(series), n, reams));
    }

    int cut(int series, int n, int sheets) {
        sizeAt(series, n);
        require(sheets >= 1 && sheets <= 9999);
        State before = state.copy();
        return keepUnlessRefused(before, tryCut(state.series.get(series), n, sheets));
    }

    int order(int w, int h, int number) {
        require(isOrder(w, h, number));
        State before = state.copy();
        return keepUnlessRefused(before, tryOrder(w, h, number));
    }

    int setEdge(int edge) {
        require(edge >= 0 && edge <= 50);
        keep();
        int before = state.edge;
        state.edge = edge;
        return before;
    }

    int setReam(int ream) {
        require(ream >= 1 && ream <= 500);
        keep();
        int before = state.ream;
        state.ream = ream;
        return before;
    }

    private int tryBuy(Series s, int n, int reams) {
        if (s.isVoid(n)) {
            return refuse(-3);
        }
        int sheets = reams * state.ream;
        if (s.sheets[n] + sheets > 9999) {
            return refuse(-5);
        }
        s.sheets[n] += sheets;
        state.accounts[0] += (long) sheets * s.area(n);
        state.accounts[7] += reams;
        return s.sheets[n];
    }

    private int tryCut(Series s, int n, int sheets) {
        if (s.isVoidToCut(n)) {
            return refuse(-3);
        }
        if (s.sheets[n] < sheets) {
            return refuse(-4);
        }
        if (s.sheets[n + 1] + 2 * sheets > 9999) {
            return refuse(-5);
        }
        for (int k = 0; k < sheets; k++) {
            cutOne(s, n);
        }
        return s.sheets[n + 1];
    }

    private void cutOne(Series s, int n) {
        s.sheets[n]--;
        s.sheets[n + 1] += 2;
        state.accounts[3] += s.strip(n);
        state.accounts[4]++;
    }

    /** Cuts one sheet after the other until there are some sheets of a size. */
    private void provide(Series s, int n, int sheets) {
        while (s.sheets[n] < sheets) {
            provide(s, n - 1, 1);
            cutOne(s, n - 1);
        }
    }

    private int tryOrder(int w, int h, int number) {
        int reason = reason(w, h, number);
        if (reason != 0) {
            return refuse(-5 - reason);
        }
        int[] size = nearestOf(w, h, number);
        Series s = state.series.get(size[0]);
        provide(s, size[1], number);
        s.sheets[size[1]] -= number;
        state.accounts[1] += (long) w * h * number;
        state.accounts[2] += (long) leftOf(size, w, h) * number;
        state.accounts[5]++;
        state.accounts[6] += number;
        List<Integer> print = List.of(w, h);
        if (state.prints.containsKey(print) || state.prints.size() < 30) {
            state.prints.merge(print, number, Integer::sum);
        }
        return 100 * size[0] + size[1];
    }

    private int refuse(int code) {
        refusals[-code]++;
        return code;
    }

    private void keep() {
        past.addLast(state.copy());
        if (past.size() > 8) {
            past.removeFirst();
        }
    }

    private int keepUnlessRefused(State before, int answer) {
        if (answer >= NONE) {
            past.addLast(before);
            if (past.size() > 8) {
                past.removeFirst();
            }
        }
        return answer;
    }

    // ---- the written text, undo, saved states

    int writeStacks() {
        List<String> stacks = new ArrayList<>();
        for (Series s : state.series) {
            for (int n = 0; n < 10; n++) {
                if (s.sheets[n] > 0) {
                    stacks.add(s.name + n + ":" + s.sheets[n]);
                }
            }
        }
        written = String.join(" ", stacks);
        return written.length();
    }

    int writeSheet(int series, int n, int folds, boolean isBack) {
        Series s = foldable(series, n, folds);
        int[] grid = gridOf(s, n, folds);
        StringBuilder lines = new StringBuilder();
        for (int row = 0; row < grid[0]; row++) {
            List<String> line = new ArrayList<>();
            for (int column = 0; column < grid[1]; column++) {
                line.add(String.valueOf(pageOf(s, n, folds, row, column, isBack)));
            }
            lines.append(String.join(" ", line)).append("\n");
        }
        written = lines.toString();
        return written.length();
    }

    int outputByte(int index) {
        return index >= 0 && index < written.length() ? written.charAt(index) : NONE;
    }

    int undo() {
        if (past.isEmpty()) {
            return NONE;
        }
        state = past.removeLast();
        return past.size();
    }

    int save(int slot) {
        requireSlot(slot);
        saved[slot] = state.copy();
        return state.series.size();
    }

    int restore(int slot) {
        requireSlot(slot);
        if (saved[slot] == null) {
            throw new IllegalStateException();
        }
        state = saved[slot].copy();
        past.clear();
        return state.series.size();
    }

    // ---- what is asked of arguments

    private static void require(boolean isInRange) {
        if (!isInRange) {
            throw new IllegalArgumentException();
        }
    }

    private static void requireSlot(int slot) {
        if (slot != 0 && slot != 1) {
            throw new IndexOutOfBoundsException();
        }
    }

    private static boolean isSide(int side) {
        return side >= 1 && side <= 2000;
    }

    private static boolean isOrder(int w, int h, int number) {
        return isSide(w) && isSide(h) && number >= 1 && number <= 999;
    }

    private Series seriesAt(int series) {
        if (series < 0 || series >= state.series.size()) {
            throw new IndexOutOfBoundsException();
        }
        return state.series.get(series);
    }

    private Series sizeAt(int series, int n) {
        Series s = seriesAt(series);
        if (n < 0 || n > 9) {
            throw new IndexOutOfBoundsException();
        }
        return s;
    }
}
