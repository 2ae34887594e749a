/** Promises 31 to 42 (changes, the written text, undo, saved states), sentence by sentence. */
final class ChangeSentences extends BySentence {
    ChangeSentences(Document document, Check check) {
        super(document, check);
    }

    @Override
    void run() {
        found();
        buy();
        cut();
        order();
        setEdge();
        setReam();
        writeStacks();
        writeSheet();
        outputByte();
        undo();
        save();
        restore();
    }

    // ---- changes

    /** "This is a change": it is kept, and undo brings back what was. */
    private void isChange(Check.Call call) {
        String before = allButRefusals();
        int kept = land.count(6);
        isNot(before, () -> {
            call.answer();
            return allButRefusals();
        });
        is(kept + 1, () -> land.count(6));
        is(kept, () -> land.undo());
        is(before, () -> allButRefusals());
    }

    private void found() {
        section("Promise 31");
        says("A new SERIES comes behind the others, without SHEETS;");
        say("new");
        is(2, () -> land.found(30, 20));
        is("royal long new", () -> name(0) + " " + name(1) + " " + name(2));
        is("0 0 0 0 0 0 0 0 0 0", () -> row(2, 3));
        is("30 15 15 7 7 3 3 1 1 0", () -> row(2, 0));
        is("20 20 10 10 5 5 2 2 1 0", () -> row(2, 1));
        is("3 17 3 3 50 0 1", () -> Check.counts(land));
        // Not with the sheets of a series that was undone either.
        land.buy(2, 1, 9);
        land.undo();
        land.undo();
        say("new");
        land.found(30, 20);
        is("3 17 3 3 50 0 1", () -> Check.counts(land));

        says("its name is the whole text buffer, which is empty then.");
        say("abcdef");
        is(2, () -> land.found(1, 1));
        is("abcdef", () -> name(2));
        holds(0);
        say("g");
        is(3, () -> land.found(1, 1));
        is("g", () -> name(3));
        say("gh gi");
        is(-1, () -> land.found(1, 1));
        say("gh ");
        is(-1, () -> land.found(1, 1));
        say("\ngh");
        is(-1, () -> land.found(1, 1));
        say("gh;");
        is(-1, () -> land.found(1, 1));

        says("This is a change.");
        say("new");
        isChange(() -> land.found(1, 1));
        holds(0);

        says("`wide`: 1 to 2000");
        say("a");
        is(ARGUMENT, () -> land.found(0, 1));
        is(ARGUMENT, () -> land.found(2001, 1));
        is("2 1", () -> land.found(1, 7) + " " + land.size(2, 0, 0));
        say("b");
        is("3 2000", () -> land.found(2000, 7) + " " + land.size(3, 0, 0));

        says("`high`: 1 to 2000");
        say("a");
        is(ARGUMENT, () -> land.found(1, 0));
        is(ARGUMENT, () -> land.found(1, 2001));
        is("2 1", () -> land.found(7, 1) + " " + land.size(2, 0, 1));
        say("b");
        is("3 2000", () -> land.found(7, 2000) + " " + land.size(3, 0, 1));

        says("Returns its number;");
        for (int series = 2; series <= 4; series++) {
            int number = series;
            say("abc".substring(series - 2, series - 1));
            is(number, () -> land.found(1, 1));
        }
        load("land 0 1");
        say("a");
        is(0, () -> land.found(1, 1));
        noFounding();
    }

    private void noFounding() {
        says("NONE, and nothing changes, if there are 5 SERIES,");
        for (String name : new String[] {"a", "b", "c"}) {
            say(name);
            isNot("-1", () -> land.found(1, 1));
        }
        say("d");
        leavesAll(() -> land.found(1, 1));
        is(-1, () -> land.found(1, 1));
        holds(1);
        land.undo();
        is(4, () -> land.found(1, 1));

        says("one has this name,");
        for (String name : new String[] {"royal", "long"}) {
            say(name);
            leavesAll(() -> land.found(1, 1));
            is(-1, () -> land.found(1, 1));
            holds(name.length());
        }

        says("or the text buffer is no NAME (this is no refusal).");
        for (String bad : new String[] {"", "abcdefg", "A", "`", "{", "a1", "1", " a", "a ", "a\n", "a b", "a;", "\u00e1"}) {
            say(bad);
            leavesAll(() -> land.found(1, 1));
            is(-1, () -> land.found(1, 1));
            holds(bad.length());
        }
        say("a".repeat(580));
        is(-1, () -> land.found(1, 1));
        is("0 0 0 0 0 0", () -> Check.refusals(land));

        says("Throws `IllegalArgumentException` if a number is out of its range");
        say("royal");
        needsSides((wide, high) -> land.found(wide, high));
        land.truncate(0);
        needsSides((wide, high) -> land.found(wide, high));
        say("new");
        for (int bad : new int[] {0, 2001, -1, LEAST, GREATEST}) {
            is(ARGUMENT, () -> land.found(bad, 1));
            is(ARGUMENT, () -> land.found(1, bad));
        }
        holds(3);
    }

    private void saysN(OfNumber call) {
        says("`n`: 0 to 9");
        isNot(INDEX, () -> call.answer(0));
        isNot(INDEX, () -> call.answer(9));
        is(INDEX, () -> call.answer(-1));
        is(INDEX, () -> call.answer(10));
    }

    private void buy() {
        section("Promise 32");
        says("Some reams of a SIZE come.");
        land.buy(0, 0, 2);
        is("110 0 3 0 0 0 0 0 0 0", () -> row(0, 3));
        is("1609500 0 0 0 0 0 0 2", () -> Check.accounts(land));
        land.setReam(1);
        land.buy(1, 9, 1);
        is("4 0 0 0 0 0 0 0 0 1", () -> row(1, 3));
        is("1609518 0 0 0 0 0 0 3", () -> Check.accounts(land));

        says("This is a change.");
        isChange(() -> land.buy(0, 0, 1));
        land.setReam(500);
        is(1, () -> land.count(6));
        is(-5, () -> land.buy(0, 0, 99));
        is(1, () -> land.count(6));
        saysN(n -> land.buy(0, n, 1));

        says("`reams`: 1 to 99");
        land.setReam(1);
        is(ARGUMENT, () -> land.buy(0, 0, 0));
        is(11, () -> land.buy(0, 0, 1));
        is(110, () -> land.buy(0, 0, 99));
        is(ARGUMENT, () -> land.buy(0, 0, 100));

        says("Returns its SHEETS then;");
        is("60 110 50", () -> land.buy(0, 0, 1) + " " + land.buy(0, 0, 1) + " " + land.buy(0, 9, 1));

        says("-3;");
        load("land 0 500;series a 2 1 size 0 9999");
        is("-3 -3 -3", () -> land.buy(0, 2, 1) + " " + land.buy(0, 9, 1) + " " + land.buy(0, 2, 99));
        is("500", () -> "" + land.buy(0, 1, 1));
        is(3, () -> land.refused(-3));

        says("-5.");
        load("land 0 1;series a 2 1 size 0 9998 size 1 9901");
        is("9999 -5", () -> land.buy(0, 0, 1) + " " + land.buy(0, 0, 1));
        is("-5 9999", () -> land.buy(0, 1, 99) + " " + land.buy(0, 1, 98));
        land.setReam(500);
        is(-5, () -> land.buy(0, 0, 99));
        is(3, () -> land.refused(-5));

        says("Throws `IndexOutOfBoundsException` if there is no such SERIES or SIZE");
        needsSize((series, n) -> land.buy(series, n, 100));
        land = new PaperLand();
        needsSize((series, n) -> land.buy(series, n, 1));

        says("Throws `IllegalArgumentException` if reams is out of range");
        needsRange(1, 99, reams -> land.buy(0, 0, reams));
        load("land 0 1;series a 1 1");
        needsRange(1, 99, reams -> land.buy(0, 1, reams));
    }

    private void cut() {
        section("Promise 33");
        says("Some SHEETS of a SIZE are cut to halves.");
        land.cut(0, 0, 3);
        is("7 6 3 0 0 0 0 0 0 0", () -> row(0, 3));
        is("199500 0 0 300 3 0 0 0", () -> Check.accounts(land));
        land.cut(0, 0, 7);
        is("0 20 3 0 0 0 0 0 0 0", () -> row(0, 3));

        says("This is a change.");
        isChange(() -> land.cut(0, 0, 1));
        is(-4, () -> land.cut(0, 0, 11));
        is(0, () -> land.count(6));
        saysN(n -> land.cut(0, n, 1));

        says("`sheets`: 1 to 9999");
        is(ARGUMENT, () -> land.cut(0, 0, 0));
        is(ARGUMENT, () -> land.cut(0, 0, 10000));
        is("2 -4", () -> land.cut(0, 0, 1) + " " + land.cut(0, 0, 9999));

        says("Returns the SHEETS of the next SIZE then;");
        is("6 9 15", () -> land.cut(0, 0, 3) + " " + land.cut(0, 1, 3) + " " + land.cut(0, 1, 3));
        load("land 0 1;series a 900 900 size 8 1 size 9 5");
        is(7, () -> land.cut(0, 8, 1));

        says("-3;");
        load("land 0 500;series a 2 1 size 0 9999 size 1 9999;series b 900 900 size 9 5");
        is("-3 -3 -3 -3", () -> land.cut(0, 1, 1) + " " + land.cut(0, 1, 9999) + " " + land.cut(0, 2, 1) + " "
            + land.cut(0, 9, 9999));
        is(-3, () -> land.cut(1, 9, 1));
        is(5, () -> land.refused(-3));

        says("-4;");
        load("land 0 500;series a 2 1 size 0 4 size 1 9999;series b 9 9");
        is("-4 -4 -5", () -> land.cut(0, 0, 5) + " " + land.cut(0, 0, 9999) + " " + land.cut(0, 0, 4));
        is(-4, () -> land.cut(1, 0, 1));
        is(3, () -> land.refused(-4));

        says("-5.");
        load("land 0 500;series a 2 1 size 0 9 size 1 9989;series b 2 1 size 0 9999");
        is("-5 9999", () -> land.cut(0, 0, 6) + " " + land.cut(0, 0, 5));
        is("-5 -5 9998 -5", () -> land.cut(1, 0, 9999) + " " + land.cut(1, 0, 5000) + " " + land.cut(1, 0, 4999) + " "
            + land.cut(1, 0, 1));
        is(4, () -> land.refused(-5));

        says("Throws `IndexOutOfBoundsException` if there is no such SERIES or SIZE");
        needsSize((series, n) -> land.cut(series, n, 0));
        land = new PaperLand();
        needsSize((series, n) -> land.cut(series, n, 1));

        says("Throws `IllegalArgumentException` if sheets is out of range");
        needsRange(1, 9999, sheets -> land.cut(0, 0, sheets));
        needsRange(1, 9999, sheets -> land.cut(0, 9, sheets));
    }

    private void order() {
        section("Promise 34");
        says("An ORDER.");
        is(2, () -> land.order(40, 60, 5));
        is("9 1 0 0 0 0 0 0 0 0", () -> row(0, 3));
        is("199500 12000 5500 100 2 1 5 0", () -> Check.accounts(land));
        is("40 60 5", () -> print(0));

        says("This is a change.");
        isChange(() -> land.order(40, 60, 5));
        is(-7, () -> land.order(40, 60, 44));
        is(-6, () -> land.order(201, 1, 1));
        is(0, () -> land.count(6));

        says("`w`: 1 to 2000");
        is("109 -6", () -> Check.landOf("land 0 1;series a 1 1;series b 900 900 size 9 2").order(1, 9, 1) + " "
            + land.order(2000, 9, 1));
        is(ARGUMENT, () -> land.order(0, 9, 1));
        is(ARGUMENT, () -> land.order(2001, 9, 1));

        says("`h`: 1 to 2000");
        is("109 -6", () -> Check.landOf("land 0 1;series a 1 1;series b 900 900 size 9 2").order(9, 1, 1) + " "
            + land.order(9, 2000, 1));
        is(ARGUMENT, () -> land.order(9, 0, 1));
        is(ARGUMENT, () -> land.order(9, 2001, 1));

        says("`number`: 1 to 999");
        load("land 0 1;series a 9 9 size 0 1000");
        is("0 0 -7", () -> land.order(9, 9, 999) + " " + land.order(9, 9, 1) + " " + land.order(9, 9, 1));
        is(ARGUMENT, () -> land.order(9, 9, 0));
        is(ARGUMENT, () -> land.order(9, 9, 1000));

        says("Returns 100 times the SERIES plus the number of the NEAREST SIZE;");
        is("2 100 0", () -> land.order(40, 60, 1) + " " + land.order(54, 194, 1) + " " + land.order(94, 135, 1));

        says("-6;");
        is("-6 -6 -6", () -> land.order(201, 1, 1) + " " + land.order(95, 135, 999) + " " + land.order(2000, 2000, 1));
        is(3, () -> land.refused(-6));

        says("-7.");
        is("-7 -7 0 -7", () -> land.order(94, 135, 11) + " " + land.order(54, 194, 5) + " " + land.order(94, 135, 10) + " "
            + land.order(94, 135, 1));
        is(3, () -> land.refused(-7));

        says("Throws `IllegalArgumentException` if a number is out of its range");
        needsSides((w, h) -> land.order(w, h, 1));
        needsRange(1, 999, number -> land.order(1, 1, number));
        needsRange(1, 999, number -> land.order(2000, 2000, number));
    }

    private void setEdge() {
        section("Promise 35");
        says("Sets EDGE.");
        land.setEdge(7);
        is("7 86", () -> land.count(3) + " " + land.size(0, 0, 6));

        says("This is a change.");
        isChange(() -> land.setEdge(50));
        land.setEdge(3);
        is("1 0", () -> land.count(6) + " " + land.undo());

        says("`edge`: 0 to 50");
        is("3 0 50", () -> land.setEdge(0) + " " + land.setEdge(50) + " " + land.count(3));
        is(ARGUMENT, () -> land.setEdge(-1));
        is(ARGUMENT, () -> land.setEdge(51));
        is(50, () -> land.count(3));

        says("Returns EDGE before.");
        is("3 9 9", () -> land.setEdge(9) + " " + land.setEdge(9) + " " + land.setEdge(1));

        says("Throws `IllegalArgumentException` if edge is out of range");
        needsRange(0, 50, edge -> land.setEdge(edge));
    }

    private void setReam() {
        section("Promise 36");
        says("Sets REAM.");
        land.setReam(7);
        is("7 17", () -> land.count(4) + " " + land.buy(0, 0, 1));

        says("This is a change.");
        isChange(() -> land.setReam(500));
        land.setReam(50);
        is("1 0", () -> land.count(6) + " " + land.undo());

        says("`ream`: 1 to 500");
        is("50 1 500", () -> land.setReam(1) + " " + land.setReam(500) + " " + land.count(4));
        is(ARGUMENT, () -> land.setReam(0));
        is(ARGUMENT, () -> land.setReam(501));
        is(500, () -> land.count(4));

        says("Returns REAM before.");
        is("50 9 9", () -> land.setReam(9) + " " + land.setReam(9) + " " + land.setReam(1));

        says("Throws `IllegalArgumentException` if ream is out of range");
        needsRange(1, 500, ream -> land.setReam(ream));
    }

    // ---- the written text, undo, saved states

    private void writeStacks() {
        section("Promise 37");
        says("Writes the SIZES with SHEETS, in place of the text before, by SERIES, then by their numbers:");
        is("royal0:10 royal2:3 long0:4", () -> Check.stacks(land));
        land.writeSheet(0, 0, 5, false);
        land.order(94, 135, 10);
        is("royal2:3 long0:4", () -> Check.stacks(land));
        is(-1, () -> land.outputByte(16));
        load("land 0 1;series z 900 900 size 9 1 size 0 2;series a 900 900 size 3 4");
        is("z0:2 z9:1 a3:4", () -> Check.stacks(land));
        load("land 0 1;series z 900 900");
        is("", () -> Check.stacks(land));

        says("for each the name of its SERIES, its number, a colon (byte 58) and its SHEETS, with a blank between two.");
        load("land 0 1;series a 900 900 size 0 9999 size 1 1000 size 2 999 size 3 100 size 4 99 size 5 10 size 6 9 size 7 1;"
            + "series abcdef 1 1 size 0 1010");
        is("a0:9999 a1:1000 a2:999 a3:100 a4:99 a5:10 a6:9 a7:1 abcdef0:1010", () -> Check.stacks(land));
        is("58 32", () -> land.outputByte(2) + " " + land.outputByte(7));

        says("Returns the number of bytes of the text.");
        is(26, () -> land.writeStacks());
        load("land 0 1");
        is("0 -1", () -> land.writeStacks() + " " + land.outputByte(0));
        load("land 0 500;series abcdef 2000 2000;series bbcdef 2000 2000;series cbcdef 2000 2000;series dbcdef 2000 2000;"
            + "series ebcdef 2000 2000");
        for (int stack = 0; stack < 50; stack++) {
            land.buy(stack / 10, stack % 10, 19);
        }
        is("649 48 -1", () -> land.writeStacks() + " " + land.outputByte(648) + " " + land.outputByte(649));
        is("dbcdef9:9500 ebcdef0:9500", () -> Check.output(land).substring(507, 532));
    }

    private void writeSheet() {
        section("Promise 38");
        says("Writes the PAGES on one side of a SHEET that is folded, in place of the text before:");
        land.writeStacks();
        is("7 2\n6 3\n", () -> Check.sheet(land, 0, 0, 2, false));
        is(-1, () -> land.outputByte(8));

        says("row by row, in each row by columns (of the front as it lies; of the back as seen through the SHEET, in the same "
            + "order of CELLS),");
        is("8 1\n5 4\n", () -> Check.sheet(land, 0, 0, 2, true));
        for (int folds = 0; folds <= 5; folds++) {
            int times = folds;
            is(byPages(times, false), () -> Check.sheet(land, 0, 0, times, false));
            is(byPages(times, true), () -> Check.sheet(land, 0, 0, times, true));
        }

        says("with a blank between two and a line feed (byte 10) behind each row.");
        is("1\n", () -> Check.sheet(land, 0, 9, 0, false));
        is("10 -1", () -> land.outputByte(1) + " " + land.outputByte(2));
        is("7 6\n2 3\n", () -> Check.sheet(land, 0, 1, 2, false));
        is("32 10 10", () -> land.outputByte(1) + " " + land.outputByte(3) + " " + land.outputByte(7));

        says("`n`: 0 to 9");
        is("2 2", () -> land.writeSheet(0, 0, 0, false) + " " + land.writeSheet(0, 9, 0, false));
        is(INDEX, () -> land.writeSheet(0, 10, 0, false));
        is(INDEX, () -> land.writeSheet(0, -1, 0, false));

        says("`folds`: 0 to 5");
        is(2, () -> land.writeSheet(0, 0, 0, false));
        is(true, () -> land.writeSheet(0, 0, 5, false) == byPages(5, false).length());
        is(ARGUMENT, () -> land.writeSheet(0, 0, 6, false));
        is(ARGUMENT, () -> land.writeSheet(0, 0, -1, false));

        says("`isBack`: whether the back is meant, not the front");
        is("1\n2\n", () -> Check.sheet(land, 0, 0, 0, false) + Check.sheet(land, 0, 0, 0, true));

        says("Returns the number of bytes of the text.");
        // The fronts folded three times: 15 10, 2 7, 3 6, 14 11.
        is("2 4 8 20", () -> land.writeSheet(0, 0, 0, true) + " " + land.writeSheet(0, 0, 1, false) + " "
            + land.writeSheet(0, 0, 2, false) + " " + land.writeSheet(0, 0, 3, false));

        says("Throws `IndexOutOfBoundsException` if there is no such SERIES or SIZE");
        needsSize((series, n) -> land.writeSheet(series, n, 6, false));

        says("Throws `IllegalArgumentException` if folds is out of range, or the SHEET cannot be folded so often");
        needsRange(0, 5, folds -> land.writeSheet(0, 0, folds, true));
        needsRange(0, 1, folds -> land.writeSheet(0, 8, folds, false));
        load("land 0 1;series a 1 1");
        needsRange(0, 0, folds -> land.writeSheet(0, 0, folds, true));
        is(ARGUMENT, () -> land.writeSheet(0, 1, 0, false));
        is("2\n", () -> Check.output(land));
    }

    private String byPages(int folds, boolean isBack) {
        StringBuilder text = new StringBuilder();
        for (int row = 0; row < land.grid(0, 0, folds, false); row++) {
            for (int column = 0; column < land.grid(0, 0, folds, true); column++) {
                text.append(column == 0 ? "" : " ").append(land.page(0, 0, folds, row, column, isBack));
            }
            text.append('\n');
        }
        return text.toString();
    }

    private void outputByte() {
        section("Promise 39");
        says("Returns a byte of the written text.");
        land.writeStacks();
        is("royal0:10 royal2:3 long0:4", () -> Check.output(land));

        says("`index`: 0 for the first byte");
        land.writeStacks();
        is('r', () -> land.outputByte(0));

        says("Returns the byte;");
        land.writeSheet(0, 0, 1, false);
        is("51 10 50 10", () -> land.outputByte(0) + " " + land.outputByte(1) + " " + land.outputByte(2) + " "
            + land.outputByte(3));

        says("NONE if there is none.");
        is(-1, () -> land.outputByte(0));
        land.writeStacks();
        is('4', () -> land.outputByte(25));
        for (int none : new int[] {26, 27, 649, 650, -1, LEAST, GREATEST}) {
            is(-1, () -> land.outputByte(none));
        }
        land.writeSheet(0, 0, 0, false);
        is("10 -1 -1", () -> land.outputByte(1) + " " + land.outputByte(2) + " " + land.outputByte(25));
        load("land 0 1");
        is("10 0 -1", () -> land.outputByte(1) + " " + land.writeStacks() + " " + land.outputByte(0));
    }

    private void undo() {
        section("Promise 40");
        says("Undoes the latest change that was not undone.");
        land.setEdge(7);
        land.setEdge(8);
        land.undo();
        is(7, () -> land.count(3));
        land.setEdge(9);
        land.undo();
        is(7, () -> land.count(3));
        land.undo();
        is(3, () -> land.count(3));
        // All 30 prints, all ten sizes and all five series come back.
        fillUp();
        String full = withoutHistory();
        land.undo();
        String byUndo = withoutHistory();
        is("-1 -1 -1", () -> print(29));
        land.order(801, 31, 7);
        land.buy(4, 9, 1);
        land.undo();
        land.undo();
        is(byUndo, () -> withoutHistory());
        land.order(800, 30, 1);
        is(full, () -> withoutHistory());
        land.buy(4, 9, 1);
        land.buy(0, 0, 1);
        land.undo();
        land.undo();
        is(full, () -> withoutHistory());

        says("The text buffer, the error, the written text, the counts of refusals and the saved states stay.");
        play("x");
        land.save(0);
        land.setEdge(8);
        say("keep");
        land.writeStacks();
        land.order(201, 1, 1);
        land.save(1);
        land.undo();
        is("1 0", () -> land.errorCode() + " " + land.errorPosition());
        is("royal0:10 royal2:3 long0:4", () -> Check.output(land));
        is(1, () -> land.refused(-6));
        is("3 4", () -> land.count(3) + " " + land.truncate(4));
        is("2 8", () -> land.restore(1) + " " + land.count(3));
        is("2 3", () -> land.restore(0) + " " + land.count(3));
        say("new");
        land.found(1, 1);
        land.undo();
        holds(0);

        says("Returns the number of changes that can still be undone;");
        for (int edge = 0; edge < 20; edge++) {
            land.setEdge(edge);
        }
        is("7 6 5 4 3 2 1 0", () -> land.undo() + " " + land.undo() + " " + land.undo() + " " + land.undo() + " "
            + land.undo() + " " + land.undo() + " " + land.undo() + " " + land.undo());
        land.setEdge(9);
        land.setEdge(9);
        is(1, () -> land.undo());

        says("NONE if there was none.");
        leavesAll(() -> land.undo());
        is(-1, () -> land.undo());
        land.setEdge(9);
        is("0 -1 -1", () -> land.undo() + " " + land.undo() + " " + land.undo());
        is("3 0", () -> land.count(3) + " " + land.count(6));
        land.cut(0, 9, 1);
        is(-1, () -> land.undo());
    }

    private void save() {
        section("Promise 41");
        says("Saves everything but the text buffer, the error, the written text, the counts of refusals and what can be undone "
            + "in a slot,");
        land.order(40, 60, 5);
        say("new");
        land.found(9, 9);
        land.setEdge(7);
        land.setReam(8);
        land.buy(2, 1, 1);
        String saved = withoutHistory();
        leavesAll(() -> land.save(0));
        is(5, () -> land.count(6));
        land.undo();
        land.order(10, 10, 1);
        changeAll();
        land.restore(0);
        is(saved, () -> withoutHistory());
        is(0, () -> land.count(6));
        // What is not saved stays as it is when the slot is brought back.
        play("x");
        land.order(201, 1, 1);
        land.writeSheet(0, 0, 0, false);
        say("keep");
        land.restore(0);
        is("1 0 1 4", () -> land.errorCode() + " " + land.errorPosition() + " " + land.refused(-6) + " " + land.truncate(4));
        is("1\n", () -> Check.output(land));

        says("in place of what was saved there.");
        land.setEdge(7);
        land.save(0);
        land.setEdge(8);
        land.save(0);
        land.setEdge(9);
        land.save(1);
        is("2 8", () -> land.restore(0) + " " + land.count(3));
        is("2 9", () -> land.restore(1) + " " + land.count(3));

        says("`slot`: 0 or 1");
        is("2 2", () -> land.save(0) + " " + land.save(1));
        is(INDEX, () -> land.save(2));
        is(INDEX, () -> land.save(-1));

        says("Returns the number of SERIES.");
        is(2, () -> land.save(0));
        say("new");
        land.found(1, 1);
        is(3, () -> land.save(0));
        load("land 0 1");
        is(0, () -> land.save(1));

        says("Throws `IndexOutOfBoundsException` if there is no such slot");
        for (int bad : new int[] {-1, 2, 3, LEAST, GREATEST}) {
            is(INDEX, () -> land.save(bad));
        }
        is(STATE, () -> land.restore(0));
        is(STATE, () -> land.restore(1));
    }

    /** Changes of all that a saved state brings back. */
    private void changeAll() {
        land.undo();
        land.undo();
        land.cut(0, 0, 2);
        land.order(20, 20, 3);
        land.order(30, 20, 3);
        play("edge 1;ream 1;buy long 3 9;");
    }

    /** Five series with sheets of their first and last sizes, and 30 prints. */
    private void fillUp() {
        load("land 0 1;series a 900 900 size 0 99 size 9 7;series b 900 899 size 0 3 size 9 7;series c 900 898 size 9 7;"
            + "series d 900 897 size 9 7;series e 900 896 size 0 5 size 9 7");
        for (int h = 1; h <= 30; h++) {
            land.order(800, h, 1);
        }
    }

    private String withoutHistory() {
        return all().replaceFirst(" \\d+\\|", "|");
    }

    private void restore() {
        section("Promise 42");
        says("Brings back what was saved in a slot, which stays saved.");
        land.order(40, 60, 5);
        land.save(1);
        String saved = withoutHistory();
        for (int time = 0; time < 3; time++) {
            say("new");
            land.found(9, 9);
            changeAll();
            isNot(saved, () -> withoutHistory());
            is(2, () -> land.restore(1));
            is(saved, () -> withoutHistory());
        }
        // The prints go on from those of the slot, and the slot itself is left as it was.
        land.order(40, 60, 1);
        land.order(60, 40, 1);
        is("40 60 6, 60 40 1", () -> print(0) + ", " + print(1));
        land.restore(1);
        is("40 60 5, -1 -1 -1", () -> print(0) + ", " + print(1));
        is(STATE, () -> land.restore(0));
        // All 30 prints, all ten sizes and all five series come back.
        fillUp();
        String full = withoutHistory();
        land.save(0);
        land.undo();
        is("-1 -1 -1", () -> print(29));
        land.order(801, 31, 7);
        is("801 31 7", () -> print(29));
        for (int series = 0; series < 5; series++) {
            land.buy(series, 9, 1);
        }
        land.restore(0);
        is("800 30 1", () -> print(29));
        is(full, () -> withoutHistory());

        says("Nothing can be undone afterwards.");
        land.setEdge(7);
        land.save(0);
        land.setEdge(8);
        is(2, () -> land.count(6));
        land.restore(0);
        is("0 -1 7", () -> land.count(6) + " " + land.undo() + " " + land.count(3));
        land.setEdge(9);
        is("0 7 -1", () -> land.undo() + " " + land.count(3) + " " + land.undo());

        says("`slot`: 0 or 1");
        land.save(0);
        land.save(1);
        is("2 2", () -> land.restore(0) + " " + land.restore(1));
        is(INDEX, () -> land.restore(2));
        is(INDEX, () -> land.restore(-1));

        says("Returns the number of SERIES then.");
        land.save(0);
        say("new");
        land.found(1, 1);
        land.save(1);
        is("2 3 2", () -> land.restore(0) + " " + land.restore(1) + " " + land.restore(0));
        is(INDEX, () -> land.sizes(2));

        says("Throws `IndexOutOfBoundsException` if there is no such slot");
        for (int bad : new int[] {-1, 2, 3, LEAST, GREATEST}) {
            is(INDEX, () -> land.restore(bad));
        }

        says("Throws `IllegalStateException` if nothing was saved there");
        is(STATE, () -> land.restore(0));
        is(STATE, () -> land.restore(1));
        land.setEdge(9);
        land.save(1);
        is(STATE, () -> land.restore(0));
        is("1 9", () -> land.count(6) + " " + land.count(3));
        is(2, () -> land.restore(1));
        load("land 0 1");
        is(STATE, () -> land.restore(0));
        is(STATE, () -> land.restore(1));
        // A setup with an error, and undo, leave what was saved.
        land.save(0);
        Check.load(land, "land");
        land.undo();
        is(0, () -> land.restore(0));
    }
}
