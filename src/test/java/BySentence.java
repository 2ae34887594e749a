/** What the tests share that go through the document sentence by sentence, each on a new object. */
abstract class BySentence {
    static final String INDEX = "throws.IndexOutOfBoundsException";
    static final String ARGUMENT = "throws.IllegalArgumentException";
    static final String STATE = "throws.IllegalStateException";
    static final int LEAST = Integer.MIN_VALUE;
    static final int GREATEST = Integer.MAX_VALUE;

    interface OfNumber {
        Object answer(int number);
    }

    interface OfSize {
        Object answer(int series, int n);
    }

    interface OfSides {
        Object answer(int w, int h);
    }

    private final Document document;
    private final Check check;
    private String section = "";
    private int checkedBefore = -1;
    PaperLand land = new PaperLand();

    BySentence(Document document, Check check) {
        this.document = document;
        this.check = check;
    }

    abstract void run();

    void section(String name) {
        section = name;
    }

    /** The answers that follow are due by these words of the section; they begin with a new object. */
    void says(String quote) {
        endSentence();
        checkedBefore = check.checked();
        check.begin(section + ": " + quote);
        document.take(section, quote);
        land = new PaperLand();
    }

    void endSentence() {
        if (check.checked() == checkedBefore) {
            check.fail("no answer is looked at");
        }
    }

    void is(Object due, Check.Call call) {
        check.is(due, call);
    }

    void isNot(String answer, Check.Call call) {
        check.is(true, () -> !Check.answer(call).equals(answer));
    }

    // ---- arguments that are refused

    void needsRange(int least, int most, OfNumber call) {
        for (int bad : new int[] {least - 1, most + 1, least - 1000000, most + 1000000, LEAST, GREATEST}) {
            is(ARGUMENT, () -> call.answer(bad));
        }
        isNot(ARGUMENT, () -> call.answer(least));
        isNot(ARGUMENT, () -> call.answer(most));
    }

    void needsSides(OfSides call) {
        needsRange(1, 2000, w -> call.answer(w, 1));
        needsRange(1, 2000, h -> call.answer(1, h));
        needsRange(1, 2000, h -> call.answer(2000, h));
        isNot(ARGUMENT, () -> call.answer(2000, 2000));
    }

    /** There are the series 0 and 1 then, and no other. */
    void needsSeries(OfNumber call) {
        for (int bad : new int[] {-1, 2, 5, 100, LEAST, GREATEST}) {
            is(INDEX, () -> call.answer(bad));
        }
        isNot(INDEX, () -> call.answer(0));
        isNot(INDEX, () -> call.answer(1));
        land.save(0);
        Check.say(land, "third");
        land.found(7, 7);
        isNot(INDEX, () -> call.answer(2));
        is(INDEX, () -> call.answer(3));
        land.restore(0);
        is(INDEX, () -> call.answer(2));
        Check.load(land, "land 0 1");
        is(INDEX, () -> call.answer(0));
    }

    void needsSize(OfSize call) {
        for (int bad : new int[] {-1, 10, 100, LEAST, GREATEST}) {
            is(INDEX, () -> call.answer(0, bad));
            is(INDEX, () -> call.answer(1, bad));
        }
        isNot(INDEX, () -> call.answer(0, 9));
        isNot(INDEX, () -> call.answer(1, 0));
        needsSeries(series -> call.answer(series, 0));
    }

    // ---- what stays

    /** A call that changes nothing that can be told, not even the counts of refusals. */
    void leavesAll(Check.Call call) {
        String before = all();
        String answer = Check.answer(call);
        is(before, () -> all());
        is(answer, call);
    }

    /** All that can be told without a change of the written text, but for the counts of refusals. */
    String allButRefusals() {
        StringBuilder text = new StringBuilder(Check.counts(land));
        text.append('|').append(Check.accounts(land)).append('|').append(land.errorCode()).append(' ')
            .append(land.errorPosition()).append('|').append(Check.output(land));
        for (int series = 0; series < land.count(0); series++) {
            text.append('|').append(name(series)).append(' ').append(land.size(series, 0, 0)).append(' ')
                .append(land.size(series, 0, 1));
            for (int n = 0; n < 10; n++) {
                text.append(' ').append(land.size(series, n, 3));
            }
        }
        for (int place = 0; place < land.count(5); place++) {
            text.append('|').append(print(place));
        }
        return text.toString();
    }

    String all() {
        return allButRefusals() + "|" + Check.refusals(land);
    }

    String name(int series) {
        StringBuilder name = new StringBuilder();
        for (int index = 0; land.letter(series, index) != -1; index++) {
            name.append((char) land.letter(series, index));
        }
        return name.toString();
    }

    String print(int place) {
        return land.print(place, 0) + " " + land.print(place, 1) + " " + land.print(place, 2);
    }

    /** That the text buffer holds so many bytes, fewer than 600. */
    void holds(int bytes) {
        is(ARGUMENT, () -> land.truncate(bytes + 1));
        is(bytes, () -> land.truncate(bytes));
    }

    /** One kind of number for all ten sizes of a series. */
    String row(int series, int what) {
        StringBuilder text = new StringBuilder();
        for (int n = 0; n < 10; n++) {
            text.append(n == 0 ? "" : " ").append(land.size(series, n, what));
        }
        return text.toString();
    }

    void load(String setup) {
        if (Check.load(land, setup) < 0) {
            check.fail("no setup: " + setup);
        }
    }

    int play(String script) {
        return Check.play(land, script);
    }

    void say(String words) {
        Check.say(land, words);
    }
}
