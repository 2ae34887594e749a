/** Promises 8 to 30 (what is told, folds, forecasts), sentence by sentence. */
final class ToldSentences extends BySentence {
    ToldSentences(Document document, Check check) {
        super(document, check);
    }

    @Override
    void run() {
        count();
        letter();
        size();
        sizes();
        isAlike();
        ratio();
        ordered();
        print();
        account();
        refused();
        gap();
        lostBits();
        mostFolds();
        grid();
        page();
        cellOf();
        pageGap();
        fitting();
        nearest();
        whyNot();
        ifOrder();
        mostOf();
        cutsFor();
    }

    // ---- series, sizes, stacks

    private void count() {
        section("Promise 8");
        says("Returns a number.");
        is("2 17 3 3 50 0 0", () -> Check.counts(land));

        says("`what`: 0: SERIES; 1: SHEETS of all SIZES; 2: SIZES with SHEETS; 3: EDGE; 4: REAM; 5: different prints that are "
            + "kept; 6: changes that can be undone");
        is("2 17 3 3 50 0 0", () -> Check.counts(land));
        land.order(40, 60, 3);
        is("2 14 2 3 50 1 1", () -> Check.counts(land));
        land.order(60, 40, 1);
        land.setEdge(50);
        land.setReam(500);
        say("new");
        land.found(1, 1);
        is("3 15 4 50 500 2 5", () -> Check.counts(land));
        load("land 0 1");
        is("0 0 0 0 1 0 0", () -> Check.counts(land));
        land = full();
        is("5 499950 50 0 1 0 0", () -> Check.counts(land));

        says("Returns the number.");
        is(2, () -> land.count(0));

        says("Throws `IllegalArgumentException` if what is out of range");
        needsRange(0, 6, what -> land.count(what));
    }

    /** Five series with 9999 sheets of each size. */
    private PaperLand full() {
        PaperLand x = Check.landOf("land 0 500;series a 2000 2000;series b 2000 2000;series c 2000 2000;series d 2000 2000;"
            + "series e 2000 2000");
        for (int ream : new int[] {500, 499}) {
            x.setReam(ream);
            for (int series = 0; series < 5; series++) {
                for (int n = 0; n < 10; n++) {
                    x.buy(series, n, ream == 500 ? 19 : 1);
                }
            }
        }
        x.setReam(1);
        x.save(0);
        x.restore(0);
        return x;
    }

    private void letter() {
        section("Promise 9");
        says("Returns a letter of the name of a SERIES.");
        is("royal long", () -> name(0) + " " + name(1));
        load("land 0 1;series z 1 1;series azbycx 1 1");
        is("z azbycx", () -> name(0) + " " + name(1));

        says("`index`: 0 for the first letter");
        is('r', () -> land.letter(0, 0));
        is('l', () -> land.letter(1, 0));

        says("Returns the letter (its byte);");
        is(114, () -> land.letter(0, 0));
        is(108, () -> land.letter(0, 4));

        says("NONE if there is none.");
        for (int none : new int[] {5, 6, -1, LEAST, GREATEST}) {
            is(-1, () -> land.letter(0, none));
        }
        is(-1, () -> land.letter(1, 4));
        say("abcdef");
        land.found(1, 1);
        is("102 -1", () -> land.letter(2, 5) + " " + land.letter(2, 6));
        land.undo();
        say("z");
        land.found(1, 1);
        is("122 -1", () -> land.letter(2, 0) + " " + land.letter(2, 1));

        says("Throws `IndexOutOfBoundsException` if there is no such SERIES");
        needsSeries(series -> land.letter(series, 99));
    }

    private void size() {
        section("Promise 10");
        says("Returns a number of a SIZE.");
        is(100, () -> land.size(0, 0, 0));

        says("`n`: 0 to 9");
        is("100 6", () -> land.size(0, 0, 0) + " " + land.size(0, 9, 0));
        is(INDEX, () -> land.size(0, 10, 0));
        is(INDEX, () -> land.size(0, -1, 0));

        says("`what`: 0: WIDE; 1: HIGH; 2: AREA; 3: SHEETS; 4: full reams of these;");
        land.setReam(10);
        is("100 141 14100 10 1", () -> land.size(0, 0, 0) + " " + land.size(0, 0, 1) + " " + land.size(0, 0, 2) + " "
            + land.size(0, 0, 3) + " " + land.size(0, 0, 4));
        land.setReam(11);
        is(0, () -> land.size(0, 0, 4));
        land.setReam(9);
        is(1, () -> land.size(0, 0, 4));
        land.setReam(5);
        is("2 0 0", () -> land.size(0, 0, 4) + " " + land.size(0, 1, 4) + " " + land.size(0, 2, 4));
        load("land 0 1;series a 1 1 size 0 9999");
        is(9999, () -> land.size(0, 0, 4));
        land.setReam(500);
        is("19 0", () -> land.size(0, 0, 4) + " " + land.size(0, 1, 4));

        says("5: STRIP (NONE if it is VOID to cut it);");
        is("100 0 25 -1", () -> land.size(0, 0, 5) + " " + land.size(0, 1, 5) + " " + land.size(0, 4, 5) + " "
            + land.size(0, 9, 5));
        load("land 0 1;series a 1 2;series b 1 1");
        is("0 -1 -1 -1", () -> land.size(0, 0, 5) + " " + land.size(0, 1, 5) + " " + land.size(0, 2, 5) + " "
            + land.size(1, 0, 5));

        says("6: USABLE WIDE; 7: USABLE HIGH; 8: SUPPLY; 9: 1 if it is VOID, otherwise 0");
        is("94 135 10 0", () -> land.size(0, 0, 6) + " " + land.size(0, 0, 7) + " " + land.size(0, 0, 8) + " "
            + land.size(0, 0, 9));
        is("44 64 43 0", () -> land.size(0, 2, 6) + " " + land.size(0, 2, 7) + " " + land.size(0, 2, 8) + " "
            + land.size(0, 2, 9));
        load("land 0 1;series a 1 1 size 0 7");
        is("1 1 7 0", () -> land.size(0, 0, 6) + " " + land.size(0, 0, 7) + " " + land.size(0, 0, 8) + " "
            + land.size(0, 0, 9));
        is("0 0 0 1", () -> land.size(0, 1, 6) + " " + land.size(0, 1, 7) + " " + land.size(0, 1, 8) + " "
            + land.size(0, 1, 9));

        says("Returns the number.");
        is(141, () -> land.size(0, 0, 1));

        says("Throws `IndexOutOfBoundsException` if there is no such SERIES or SIZE");
        needsSize((series, n) -> land.size(series, n, 10));

        says("Throws `IllegalArgumentException` if what is out of range");
        needsRange(0, 9, what -> land.size(0, 0, what));
    }

    private void sizes() {
        section("Promise 11");
        says("Counts the SIZES of a SERIES that are not VOID.");
        load("land 0 1;series a 1 1;series b 1 2;series c 15 15;series d 22 23;series e 2000 2000");
        is("1 2 7 9 10", () -> land.sizes(0) + " " + land.sizes(1) + " " + land.sizes(2) + " " + land.sizes(3) + " "
            + land.sizes(4));

        says("Returns the number of SIZES.");
        is(10, () -> land.sizes(1));

        says("Throws `IndexOutOfBoundsException` if there is no such SERIES");
        needsSeries(series -> land.sizes(series));
    }

    private void isAlike() {
        section("Promise 12");
        says("Returns whether two SIZES have the same form: the longer side of the first one times the shorter one of the "
            + "second one is the shorter one of the first one times the longer one of the second one");
        load("land 0 1;series a 2000 1000;series b 1 2;series c 1999 1000;series d 3 3");
        is("true true false false", () -> land.isAlike(0, 0, 1, 0) + " " + land.isAlike(1, 0, 0, 0) + " "
            + land.isAlike(0, 0, 2, 0) + " " + land.isAlike(2, 0, 0, 0));
        is("true true false", () -> land.isAlike(0, 1, 3, 0) + " " + land.isAlike(1, 1, 3, 0) + " "
            + land.isAlike(0, 1, 0, 0));
        land = new PaperLand();
        is("true true false false", () -> land.isAlike(0, 1, 0, 3) + " " + land.isAlike(0, 3, 0, 1) + " "
            + land.isAlike(0, 0, 0, 2) + " " + land.isAlike(0, 2, 0, 0));

        says("(VOID ones have not).");
        load("land 0 1;series a 1 1;series b 1 1");
        is("true false false false", () -> land.isAlike(0, 0, 1, 0) + " " + land.isAlike(0, 1, 1, 0) + " "
            + land.isAlike(0, 0, 1, 1) + " " + land.isAlike(0, 1, 1, 1));
        is("false true", () -> land.isAlike(0, 1, 0, 1) + " " + land.isAlike(0, 0, 0, 0));

        says("`n`: 0 to 9, of the first SERIES");
        is("true", () -> "" + land.isAlike(0, 9, 0, 9));
        is(INDEX, () -> land.isAlike(0, 10, 0, 9));
        is(INDEX, () -> land.isAlike(0, -1, 0, 9));

        says("`m`: 0 to 9, of the other one");
        is("true", () -> "" + land.isAlike(0, 0, 0, 0));
        is(INDEX, () -> land.isAlike(0, 0, 0, 10));
        is(INDEX, () -> land.isAlike(0, 0, 0, -1));

        says("Returns whether they have.");
        is("false", () -> "" + land.isAlike(0, 0, 1, 0));

        says("Throws `IndexOutOfBoundsException` if there is no such SERIES or SIZE");
        needsSize((series, n) -> land.isAlike(series, n, 0, 0));
        land = new PaperLand();
        needsSize((series, n) -> land.isAlike(0, 0, series, n));
    }

    private void ratio() {
        section("Promise 13");
        says("Returns how much longer the longer side of a SIZE is.");
        load("land 0 1;series a 30 10;series b 10 30");
        is("3.0 3.0", () -> land.ratio(0, 0) + " " + land.ratio(1, 0));

        says("`n`: 0 to 9");
        is(1.5, () -> land.ratio(0, 9));
        is(INDEX, () -> land.ratio(0, 10));
        is(INDEX, () -> land.ratio(0, -1));

        says("Returns the longer side as a double, divided by the shorter one as a double;");
        load("land 0 1;series a 2000 1999;series b 2000 1;series c 1999 3;series d 7 7");
        is(2000.0 / 1999.0, () -> land.ratio(0, 0));
        is(2000.0, () -> land.ratio(1, 0));
        is(1999.0 / 3.0, () -> land.ratio(2, 0));
        is(1.0, () -> land.ratio(3, 0));

        says("0.0 for a VOID one.");
        load("land 0 1;series a 1 1");
        is(0.0, () -> land.ratio(0, 1));
        is(0.0, () -> land.ratio(0, 9));

        says("Throws `IndexOutOfBoundsException` if there is no such SERIES or SIZE");
        needsSize((series, n) -> land.ratio(series, n));
    }

    private void ordered() {
        section("Promise 14");
        says("Tells how many SHEETS of a print were ordered since the latest load (W and H in this order).");
        land.order(40, 60, 3);
        land.order(60, 40, 1);
        is("3 1", () -> land.ordered(40, 60) + " " + land.ordered(60, 40));
        load("land 0 1;series a 100 100 size 0 9");
        is("0 0", () -> land.ordered(40, 60) + " " + land.ordered(60, 40));

        says("`w`: 1 to 2000");
        is("0 0", () -> land.ordered(1, 1) + " " + land.ordered(2000, 1));
        is(ARGUMENT, () -> land.ordered(0, 1));
        is(ARGUMENT, () -> land.ordered(2001, 1));

        says("`h`: 1 to 2000");
        is("0 0", () -> land.ordered(1, 1) + " " + land.ordered(1, 2000));
        is(ARGUMENT, () -> land.ordered(1, 0));
        is(ARGUMENT, () -> land.ordered(1, 2001));

        says("Returns the NUMBERS of all ORDERS of it that were filled, together;");
        land.order(40, 60, 3);
        land.order(40, 60, 999);
        is(3, () -> land.ordered(40, 60));
        play("order 40 60 2;again 3(order 40 60 1;);");
        is(8, () -> land.ordered(40, 60));
        land.undo();
        is(3, () -> land.ordered(40, 60));
        land.undo();
        is(0, () -> land.ordered(40, 60));

        says("0 if it is not kept.");
        is(0, () -> land.ordered(40, 60));
        load("land 0 1;series a 100 100 size 0 99");
        play("again 3(order 100 1 1;order 100 2 1;);");
        for (int h = 3; h <= 31; h++) {
            land.order(100, h, 1);
        }
        is("3 1 0", () -> land.ordered(100, 1) + " " + land.ordered(100, 30) + " " + land.ordered(100, 31));
        is(0, () -> land.ordered(1, 100));

        says("Throws `IllegalArgumentException` if a number is out of its range");
        needsSides((w, h) -> land.ordered(w, h));
    }

    private void print() {
        section("Promise 15");
        says("Tells of the different prints that are kept, in the order of their first ORDERS.");
        land.order(40, 60, 2);
        land.order(10, 10, 1);
        land.order(60, 40, 1);
        land.order(10, 10, 1);
        land.order(40, 60, 1);
        is("40 60 3, 10 10 2, 60 40 1", () -> print(0) + ", " + print(1) + ", " + print(2));

        says("`place`: 0 for the first one");
        land.order(10, 20, 3);
        is("10 20 3", () -> print(0));

        says("`what`: 0: W; 1: H; 2: the NUMBERS of its ORDERS, together");
        land.order(10, 20, 3);
        play("order 10 20 4;");
        is("10 20 7", () -> land.print(0, 0) + " " + land.print(0, 1) + " " + land.print(0, 2));

        says("Returns the number;");
        land.order(1, 2, 1);
        is("1 2 1", () -> land.print(0, 0) + " " + land.print(0, 1) + " " + land.print(0, 2));

        says("NONE if there are not so many (or place is below 0).");
        for (int place : new int[] {0, 1, 29, 30, -1, LEAST, GREATEST}) {
            is("-1 -1 -1", () -> print(place));
        }
        load("land 0 1;series a 100 100 size 0 99");
        for (int h = 1; h <= 31; h++) {
            land.order(100, h, 1);
        }
        is("100 30 1", () -> print(29));
        is("-1 -1 -1", () -> print(30));
        is("-1 -1 -1", () -> print(-1));
        land.undo();
        is("100 30 1", () -> print(29));
        land.undo();
        is("-1 -1 -1", () -> print(29));

        says("Throws `IllegalArgumentException` if what is out of range");
        needsRange(0, 2, what -> land.print(0, what));
        needsRange(0, 2, what -> land.print(-1, what));
    }

    private void account() {
        section("Promise 16");
        says("Returns an account since the latest load; undo, and restore, bring back what it was.");
        land.order(40, 60, 5);
        land.save(0);
        String saved = Check.accounts(land);
        is("199500 12000 5500 100 2 1 5 0", () -> saved);
        land.buy(0, 0, 1);
        String bought = Check.accounts(land);
        land.cut(0, 0, 1);
        land.undo();
        is(bought, () -> Check.accounts(land));
        land.undo();
        is(saved, () -> Check.accounts(land));
        land.order(40, 60, 1);
        land.cut(0, 0, 1);
        land.restore(0);
        is(saved, () -> Check.accounts(land));

        says("`what`: 0: AREA of all SHEETS of the setup and of those that were bought;");
        is(199500, () -> land.account(0));
        land.buy(0, 9, 2);
        is(201900, () -> land.account(0));
        land.cut(0, 0, 1);
        land.order(40, 60, 1);
        is(201900, () -> land.account(0));

        says("1: AREA of prints that went;");
        land.order(40, 60, 5);
        is(12000, () -> land.account(1));
        land.order(40, 60, 999);
        is(12000, () -> land.account(1));

        says("2: LEFT areas of SHEETS that went;");
        land.order(40, 60, 5);
        is(5500, () -> land.account(2));
        land.setEdge(0);
        land.order(100, 141, 1);
        is(5500, () -> land.account(2));

        says("3: STRIPS of SHEETS that were cut; 4: SHEETS that were cut;");
        land.cut(0, 0, 2);
        is("200 2", () -> land.account(3) + " " + land.account(4));
        land.order(40, 60, 9);
        is("200 5", () -> land.account(3) + " " + land.account(4));
        land.order(40, 60, 3);
        is("300 8", () -> land.account(3) + " " + land.account(4));
        land.cut(0, 0, 99);
        land.cut(0, 9, 1);
        is("300 8", () -> land.account(3) + " " + land.account(4));

        says("5: ORDERS that were filled; 6: SHEETS that went; 7: reams that were bought");
        land.order(40, 60, 5);
        play("order 40 60 2;buy royal 5 9;");
        land.order(300, 1, 1);
        land.order(40, 60, 999);
        land.buy(0, 0, 3);
        land.setReam(500);
        land.buy(0, 0, 99);
        is("2 7 12", () -> land.account(5) + " " + land.account(6) + " " + land.account(7));

        says("Returns the number, 0 to 2147483647 (a greater one is told as that).");
        load("land 0 1;series a 2000 2000 size 0 536;series b 1999 1742 size 0 1;series c 1 1388 size 0 1;series d 1 1");
        is(2147483646, () -> land.account(0));
        land.buy(3, 0, 1);
        is(2147483647, () -> land.account(0));
        land.buy(3, 0, 1);
        is(2147483647, () -> land.account(0));
        land.order(2000, 2000, 536);
        land.order(1742, 1999, 1);
        land.order(1, 1388, 1);
        is(2147483646, () -> land.account(1));
        land.order(1, 1, 1);
        is(2147483647, () -> land.account(1));
        land.order(1, 1, 1);
        is("2147483647 2147483647 0", () -> land.account(0) + " " + land.account(1) + " " + land.account(2));
        load("land 0 1;series a 2000 2000 size 0 717");
        land.order(1001, 1001, 716);
        is(2146567284, () -> land.account(2));
        land.order(1001, 1001, 1);
        is(2147483647, () -> land.account(2));
        land.undo();
        is(2146567284, () -> land.account(2));

        says("Throws `IllegalArgumentException` if what is out of range");
        needsRange(0, 7, what -> land.account(what));
    }

    private void refused() {
        section("Promise 17");
        says("Returns how many changes and orders were refused with a code since the latest load (neither undo nor restore "
            + "changes this).");
        land.save(0);
        play("buy none 0 1;");
        land.cut(0, 9, 1);
        land.cut(0, 0, 99);
        land.buy(0, 0, 99);
        land.buy(0, 0, 99);
        land.buy(0, 0, 99);
        land.order(201, 1, 1);
        land.order(54, 194, 5);
        play("order 201 1 1;");
        is("1 1 1 1 2 1", () -> Check.refusals(land));
        land.undo();
        land.undo();
        land.undo();
        land.undo();
        is("1 1 1 1 2 1", () -> Check.refusals(land));
        land.restore(0);
        is("1 1 1 1 2 1", () -> Check.refusals(land));
        is(-1, () -> play("x"));
        is("1 1 1 1 2 1", () -> Check.refusals(land));
        load("land 0 1");
        is("0 0 0 0 0 0", () -> Check.refusals(land));

        says("`code`: -7 to -2");
        is("0 0", () -> land.refused(-7) + " " + land.refused(-2));
        is(ARGUMENT, () -> land.refused(-8));
        is(ARGUMENT, () -> land.refused(-1));

        says("Returns the number of refusals.");
        land.order(201, 1, 1);
        land.order(201, 1, 1);
        is("0 0 0 0 2 0", () -> Check.refusals(land));

        says("Throws `IllegalArgumentException` if code is out of range");
        needsRange(-7, -2, code -> land.refused(code));
        is(ARGUMENT, () -> land.refused(0));
        is(ARGUMENT, () -> land.refused(2));
    }

    private void gap() {
        section("Promise 18");
        says("Compares numbers that must agree.");
        is(0, () -> land.gap());

        says("Returns account 0 (however great) less accounts 1, 2 and 3, less the AREA of all SHEETS, without its sign; this "
            + "is always 0.");
        land.order(40, 60, 5);
        land.cut(0, 0, 3);
        land.buy(1, 3, 7);
        is(0, () -> land.gap());
        land.undo();
        is(0, () -> land.gap());
        land = full();
        is("0 2147483647", () -> land.gap() + " " + land.account(0));
        for (int k = 0; k < 9; k++) {
            land.order(1, 1, 999);
            land.order(1999, 2000, 999);
            land.order(1001, 1001, 999);
        }
        is("0 2147483647 2147483647", () -> land.gap() + " " + land.account(1) + " " + land.account(2));
        load("land 0 1");
        is(0, () -> land.gap());
    }

    private void lostBits() {
        section("Promise 19");
        says("Returns the share of the paper that is lost.");
        is(0, () -> land.lostBits());
        land.order(40, 60, 5);
        is(1021703021, () -> land.lostBits());

        says("Returns accounts 2 and 3 (however great) together as a float, divided by account 0 (however great) as a float, "
            + "as the bits of that float;");
        land.order(40, 60, 5);
        is(Float.floatToIntBits(5600f / 199500f), () -> land.lostBits());
        land.cut(0, 0, 1);
        is(Float.floatToIntBits(5700f / 199500f), () -> land.lostBits());
        load("land 0 1;series a 1 3 size 0 1");
        land.cut(0, 0, 1);
        is(Float.floatToIntBits(1f / 3f), () -> land.lostBits());
        load("land 0 1;series a 1 2 size 0 1");
        land.order(1, 1, 1);
        is(0, () -> land.lostBits());
        load("land 0 1;series a 2 2 size 0 1;series b 3 1 size 0 1");
        land.cut(1, 0, 1);
        is(Float.floatToIntBits(1f / 7f), () -> land.lostBits());
        // Both are greater than 2147483647. Account 2 as a float more account 3 as a float would come to 1052320346
        // here, a division of doubles to 1052320345.
        load("land 0 1;series a 2000 2000 size 0 1500;series b 1999 1999 size 0 9");
        land.order(1001, 1001, 728);
        land.cut(1, 0, 1);
        is(Float.floatToIntBits((float) (728L * 2997999 + 1999) / (float) (1500L * 4000000 + 9L * 1999 * 1999)),
            () -> land.lostBits());
        is(1052320344, () -> land.lostBits());
        // The least share of a great area.
        load("land 0 1;series a 2000 2000 size 0 9999;series b 2000 2000 size 0 9999;series c 1 3 size 0 1");
        land.cut(2, 0, 1);
        is(Float.floatToIntBits(1f / (float) (2L * 9999 * 4000000 + 3)), () -> land.lostBits());

        says("0 if account 0 is 0.");
        load("land 0 1");
        is(0, () -> land.lostBits());
        load("land 0 1;series a 9 9");
        is(0, () -> land.lostBits());
    }

    // ---- folds

    private void mostFolds() {
        section("Promise 20");
        says("Tells how often a SHEET of a SIZE can be folded, at most 5.");
        is("5 5 5 5 5 4 3 2 1 0", () -> folds(0));
        load("land 0 1;series a 31 1;series b 32 1;series c 64 1");
        is("4 3 2 1 0 -1 -1 -1 -1 -1", () -> folds(0));
        is("5 4 3 2 1 0 -1 -1 -1 -1", () -> folds(1));
        is("5 5 4 3 2 1 0 -1 -1 -1", () -> folds(2));

        says("`n`: 0 to 9");
        is("5 0", () -> land.mostFolds(0, 0) + " " + land.mostFolds(0, 9));
        is(INDEX, () -> land.mostFolds(0, 10));
        is(INDEX, () -> land.mostFolds(0, -1));

        says("Returns the number of folds;");
        is(3, () -> land.mostFolds(0, 6));

        says("NONE for a VOID SIZE.");
        load("land 0 1;series a 1 1");
        is("0 -1 -1", () -> land.mostFolds(0, 0) + " " + land.mostFolds(0, 1) + " " + land.mostFolds(0, 9));

        says("Throws `IndexOutOfBoundsException` if there is no such SERIES or SIZE");
        needsSize((series, n) -> land.mostFolds(series, n));
    }

    private String folds(int series) {
        StringBuilder text = new StringBuilder();
        for (int n = 0; n < 10; n++) {
            text.append(n == 0 ? "" : " ").append(land.mostFolds(series, n));
        }
        return text.toString();
    }

    private interface OfFolds {
        Object answer(int series, int n, int folds);
    }

    /** The promises on a sheet that is folded name these cases in the same words. */
    private void saysFoldsAreLooked(OfFolds call) {
        says("`n`: 0 to 9");
        isNot(INDEX, () -> call.answer(0, 0, 0));
        isNot(INDEX, () -> call.answer(0, 9, 0));
        is(INDEX, () -> call.answer(0, 10, 0));
        is(INDEX, () -> call.answer(0, -1, 0));

        says("`folds`: 0 to 5");
        isNot(ARGUMENT, () -> call.answer(0, 0, 0));
        isNot(ARGUMENT, () -> call.answer(0, 0, 5));
        is(ARGUMENT, () -> call.answer(0, 0, 6));
        is(ARGUMENT, () -> call.answer(0, 0, -1));
    }

    private void saysWhatIsThrown(OfFolds call, String index) {
        says("Throws `IndexOutOfBoundsException` if there is no such " + index);
        needsSize((series, n) -> call.answer(series, n, 6));
        land = new PaperLand();
        needsSize((series, n) -> call.answer(series, n, 0));

        says("Throws `IllegalArgumentException` if folds is out of range, or the SHEET cannot be folded so often");
        needsRange(0, 5, folds -> call.answer(0, 0, folds));
        needsRange(0, 3, folds -> call.answer(0, 6, folds));
        needsRange(0, 0, folds -> call.answer(0, 9, folds));
        load("land 0 1;series a 1 1");
        needsRange(0, 0, folds -> call.answer(0, 0, folds));
        is(ARGUMENT, () -> call.answer(0, 1, 0));
        is(ARGUMENT, () -> call.answer(0, 9, 0));
    }

    private void grid() {
        section("Promise 21");
        says("Returns the ROWS or COLUMNS of a SHEET that is folded.");
        is("8 4", () -> land.grid(0, 0, 5, false) + " " + land.grid(0, 0, 5, true));
        is("1 1", () -> land.grid(0, 0, 0, false) + " " + land.grid(0, 0, 0, true));
        saysFoldsAreLooked((series, n, folds) -> land.grid(series, n, folds, true));

        says("`isColumns`: whether COLUMNS are asked for, not ROWS");
        is("4 2", () -> land.grid(0, 0, 3, false) + " " + land.grid(0, 0, 3, true));

        says("Returns the number.");
        is("2 4", () -> land.grid(0, 1, 3, false) + " " + land.grid(0, 1, 3, true));
        saysWhatIsThrown((series, n, folds) -> land.grid(series, n, folds, false), "SERIES or SIZE");
    }

    private void page() {
        section("Promise 22");
        says("Returns the PAGE on a side of a CELL of a SHEET that is folded (told by how it lies unfolded).");
        is("7 2 6 3", () -> land.page(0, 0, 2, 0, 0, false) + " " + land.page(0, 0, 2, 0, 1, false) + " "
            + land.page(0, 0, 2, 1, 0, false) + " " + land.page(0, 0, 2, 1, 1, false));
        is(1, () -> land.page(0, 0, 0, 0, 0, false));
        saysFoldsAreLooked((series, n, folds) -> land.page(series, n, folds, 0, 0, true));

        says("`isBack`: whether its back is meant, not its front");
        is("8 1 5 4", () -> land.page(0, 0, 2, 0, 0, true) + " " + land.page(0, 0, 2, 0, 1, true) + " "
            + land.page(0, 0, 2, 1, 0, true) + " " + land.page(0, 0, 2, 1, 1, true));
        is(2, () -> land.page(0, 0, 0, 0, 0, true));

        says("Returns the PAGE.");
        is("31 32", () -> {
            int front = land.page(0, 0, 4, 0, 0, false);
            return front + " " + land.page(0, 0, 4, 0, 0, true);
        });
        saysWhatIsThrown((series, n, folds) -> land.page(series, n, folds, 0, 0, true), "SERIES, SIZE or CELL");
        land = new PaperLand();
        // Folded five times there are 8 rows and 4 columns, folded once 2 and 1.
        isNot(INDEX, () -> land.page(0, 0, 5, 7, 3, false));
        isNot(INDEX, () -> land.page(0, 0, 1, 1, 0, false));
        for (int bad : new int[] {-1, 8, 100, LEAST, GREATEST}) {
            is(INDEX, () -> land.page(0, 0, 5, bad, 0, false));
            is(INDEX, () -> land.page(0, 0, 5, 0, bad, true));
            is(INDEX, () -> land.page(0, 0, 5, bad, bad, true));
        }
        is(INDEX, () -> land.page(0, 0, 5, 0, 4, false));
        is(INDEX, () -> land.page(0, 0, 1, 2, 0, false));
        is(INDEX, () -> land.page(0, 0, 1, 0, 1, false));
        is(INDEX, () -> land.page(0, 0, 0, 1, 0, false));
        is(ARGUMENT, () -> land.page(0, 9, 1, 9, 9, false));
        is(ARGUMENT, () -> land.page(0, 0, 6, 9, 9, false));
    }

    private void cellOf() {
        section("Promise 23");
        says("Finds the CELL with a PAGE.");
        for (int page = 1; page <= 64; page++) {
            int wanted = page;
            is(page, () -> {
                int cell = land.cellOf(0, 0, 5, wanted);
                return land.page(0, 0, 5, cell / 200, cell % 200 / 2, cell % 2 == 1);
            });
        }
        saysFoldsAreLooked((series, n, folds) -> land.cellOf(series, n, folds, 1));

        says("`page`: from 1 on");
        is(INDEX, () -> land.cellOf(0, 0, 2, 0));
        is(3, () -> land.cellOf(0, 0, 2, 1));

        says("Returns 200 times its row plus 2 times its column, plus 1 if the PAGE is on its back.");
        is("3 2 202 203 201 200 0 1", () -> land.cellOf(0, 0, 2, 1) + " " + land.cellOf(0, 0, 2, 2) + " "
            + land.cellOf(0, 0, 2, 3) + " " + land.cellOf(0, 0, 2, 4) + " " + land.cellOf(0, 0, 2, 5) + " "
            + land.cellOf(0, 0, 2, 6) + " " + land.cellOf(0, 0, 2, 7) + " " + land.cellOf(0, 0, 2, 8));
        is("0 1", () -> land.cellOf(0, 0, 0, 1) + " " + land.cellOf(0, 0, 0, 2));
        load("land 0 1;series a 1 2000;series b 2000 1");
        is(true, () -> {
            int greatestRow = 0;
            int greatestColumn = 0;
            for (int page = 1; page <= 64; page++) {
                greatestRow = Math.max(greatestRow, land.cellOf(0, 0, 5, page));
                greatestColumn = Math.max(greatestColumn, land.cellOf(1, 0, 5, page));
            }
            return greatestRow == 6201 && greatestColumn == 63;
        });
        saysWhatIsThrown((series, n, folds) -> land.cellOf(series, n, folds, 1), "SERIES, SIZE or PAGE");
        land = new PaperLand();
        for (int bad : new int[] {0, -1, 3, 100, LEAST, GREATEST}) {
            is(INDEX, () -> land.cellOf(0, 0, 0, bad));
        }
        isNot(INDEX, () -> land.cellOf(0, 0, 5, 64));
        is(INDEX, () -> land.cellOf(0, 0, 5, 65));
        is(INDEX, () -> land.cellOf(0, 0, 5, 0));
        is(INDEX, () -> land.cellOf(0, 0, 1, 5));
        is(ARGUMENT, () -> land.cellOf(0, 9, 1, 0));
        is(ARGUMENT, () -> land.cellOf(0, 0, 6, 0));
    }

    private void pageGap() {
        section("Promise 24");
        says("Compares two ways to the PAGES: fold by fold, and, for each CELL by itself, by where each fold lays it.");
        is(0, () -> land.pageGap(0, 0, 5));
        saysFoldsAreLooked((series, n, folds) -> land.pageGap(series, n, folds));

        says("Returns the number of CELLS that have other PAGES by the second way; this is always 0.");
        load("land 0 1;series a 2000 1;series b 1 2000;series c 900 900;series d 901 900;series e 1700 100");
        for (int series = 0; series < 5; series++) {
            for (int folds = 0; folds <= 5; folds++) {
                int s = series;
                int f = folds;
                is(0, () -> land.pageGap(s, 0, f));
            }
        }
        saysWhatIsThrown((series, n, folds) -> land.pageGap(series, n, folds), "SERIES or SIZE");
    }

    // ---- orders to come

    private void saysSides(OfSides call) {
        says("`w`: 1 to 2000");
        isNot(ARGUMENT, () -> call.answer(1, 7));
        isNot(ARGUMENT, () -> call.answer(2000, 7));
        is(ARGUMENT, () -> call.answer(0, 7));
        is(ARGUMENT, () -> call.answer(2001, 7));

        says("`h`: 1 to 2000");
        isNot(ARGUMENT, () -> call.answer(7, 1));
        isNot(ARGUMENT, () -> call.answer(7, 2000));
        is(ARGUMENT, () -> call.answer(7, 0));
        is(ARGUMENT, () -> call.answer(7, 2001));
    }

    private void saysNumber(OfNumber call) {
        says("`number`: 1 to 999");
        isNot(ARGUMENT, () -> call.answer(1));
        isNot(ARGUMENT, () -> call.answer(999));
        is(ARGUMENT, () -> call.answer(0));
        is(ARGUMENT, () -> call.answer(1000));
    }

    private void saysRanges(OfSides sides, OfNumber number) {
        says("Throws `IllegalArgumentException` if a number is out of its range");
        needsSides(sides);
        needsRange(1, 999, number);
        load("land 0 1");
        needsSides(sides);
        needsRange(1, 999, number);
    }

    private void fitting() {
        section("Promise 25");
        says("Counts the SIZES that FIT a print.");
        is("5 5 1 1", () -> land.fitting(40, 60) + " " + land.fitting(60, 40) + " " + land.fitting(94, 135) + " "
            + land.fitting(135, 94));
        is("0 0 0 0", () -> land.fitting(95, 135) + " " + land.fitting(94, 136) + " " + land.fitting(136, 94) + " "
            + land.fitting(2000, 2000));
        land.setEdge(0);
        is("20 1 1", () -> land.fitting(1, 1) + " " + land.fitting(200, 60) + " " + land.fitting(60, 200));
        land.setEdge(50);
        is("0", () -> "" + land.fitting(1, 1));
        saysSides((w, h) -> land.fitting(w, h));

        says("Returns the number of SIZES of all SERIES.");
        load("land 0 1;series a 2000 2000;series b 2000 2000;series c 2000 2000;series d 2000 2000;series e 2000 2000");
        is("50 5 10", () -> land.fitting(1, 1) + " " + land.fitting(2000, 2000) + " " + land.fitting(2000, 1000));
        load("land 0 1;series a 1 1;series b 1 2");
        is("3 1 1 0", () -> land.fitting(1, 1) + " " + land.fitting(1, 2) + " " + land.fitting(2, 1) + " "
            + land.fitting(2, 2));
        load("land 0 1");
        is(0, () -> land.fitting(1, 1));

        says("Throws `IllegalArgumentException` if a number is out of its range");
        needsSides((w, h) -> land.fitting(w, h));
    }

    private void nearest() {
        section("Promise 26");
        says("Finds the NEAREST SIZE for an ORDER.");
        is("2 1 0 100", () -> land.nearest(40, 60, 43) + " " + land.nearest(94, 64, 20) + " "
            + land.nearest(94, 65, 10) + " " + land.nearest(54, 194, 4));
        saysSides((w, h) -> land.nearest(w, h, 1));
        saysNumber(number -> land.nearest(1, 1, number));

        says("Returns 100 times its SERIES plus its number;");
        load("land 0 1;series a 1 1;series b 1 1;series c 1 1;series d 1 1;series e 900 900 size 9 1");
        is("409 409 -1", () -> land.nearest(28, 56, 1) + " " + land.nearest(56, 28, 1) + " " + land.nearest(56, 29, 1));

        says("NONE if the ORDER would be refused.");
        is("-1 -1 -1", () -> land.nearest(201, 1, 1) + " " + land.nearest(40, 60, 44) + " " + land.nearest(54, 194, 5));
        load("land 0 1");
        is(-1, () -> land.nearest(1, 1, 1));
        saysRanges((w, h) -> land.nearest(w, h, 1), number -> land.nearest(1, 1, number));
    }

    private void whyNot() {
        section("Promise 27");
        says("Tells why an ORDER would be refused.");
        is("0 2 1", () -> land.whyNot(40, 60, 43, 0) + " " + land.whyNot(40, 60, 44, 0) + " "
            + land.whyNot(201, 1, 1, 0));
        saysSides((w, h) -> land.whyNot(w, h, 1, 0));
        saysNumber(number -> land.whyNot(1, 1, number, 1));

        says("`depth`: 0 for the reason (0 if it would not be; 1 and 2 as in section 3),");
        is("0 0 2 2", () -> land.whyNot(94, 135, 1, 0) + " " + land.whyNot(94, 135, 10, 0) + " "
            + land.whyNot(94, 135, 11, 0) + " " + land.whyNot(94, 135, 999, 0));
        is("1 1", () -> land.whyNot(95, 135, 1, 0) + " " + land.whyNot(95, 135, 999, 0));
        load("land 0 1");
        is(1, () -> land.whyNot(1, 1, 1, 0));

        says("1 for its cause: of 1 the EDGE with which a SIZE would FIT, the greatest such one (NONE if there is none);");
        is("2 0 -1 2 1", () -> land.whyNot(95, 135, 1, 1) + " " + land.whyNot(100, 141, 1, 1) + " "
            + land.whyNot(101, 141, 1, 1) + " " + land.whyNot(137, 96, 999, 1) + " " + land.whyNot(139, 98, 1, 1));
        is("-1 0 -1", () -> land.whyNot(201, 1, 1, 1) + " " + land.whyNot(200, 60, 1, 1) + " "
            + land.whyNot(2000, 2000, 1, 1));
        land.setEdge(50);
        is("49 49 48 20", () -> land.whyNot(1, 43, 1, 1) + " " + land.whyNot(2, 1, 1, 1) + " " + land.whyNot(3, 3, 1, 1)
            + " " + land.whyNot(60, 101, 1, 1));
        load("land 50 1;series a 101 100;series b 1 1");
        is("1 49 49 0 -1", () -> land.whyNot(1, 1, 1, 0) + " " + land.whyNot(1, 1, 1, 1) + " "
            + land.whyNot(2, 3, 1, 1) + " " + land.whyNot(101, 100, 1, 1) + " " + land.whyNot(101, 101, 1, 1));
        load("land 3 1");
        is("1 -1", () -> land.whyNot(1, 1, 1, 0) + " " + land.whyNot(1, 1, 1, 1));

        says("of 2 the greatest SUPPLY of those that FIT;");
        is("43 10 4", () -> land.whyNot(40, 60, 44, 1) + " " + land.whyNot(94, 135, 11, 1) + " "
            + land.whyNot(54, 194, 5, 1));
        load("land 0 1;series a 20 10 size 0 9;series b 20 11 size 0 7;series c 10 10 size 0 99");
        is("9 7 0", () -> land.whyNot(20, 10, 10, 1) + " " + land.whyNot(20, 11, 8, 1) + " "
            + Check.landOf("land 0 1;series a 2 2").whyNot(1, 1, 1, 1));

        says("NONE otherwise");
        is("-1 -1", () -> land.whyNot(40, 60, 43, 1) + " " + land.whyNot(1, 1, 1, 1));

        says("Returns the number.");
        is("2 43", () -> land.whyNot(40, 60, 44, 0) + " " + land.whyNot(40, 60, 44, 1));
        saysRanges((w, h) -> land.whyNot(w, h, 1, 0), number -> land.whyNot(1, 1, number, 1));
        needsRange(0, 1, depth -> land.whyNot(1, 1, 1, depth));
        land = new PaperLand();
        needsRange(0, 1, depth -> land.whyNot(1, 1, 1, depth));
        needsRange(0, 1, depth -> land.whyNot(40, 60, 999, depth));
    }

    private void ifOrder() {
        section("Promise 28");
        says("Tells what an ORDER would do.");
        is("2 100 5500 0", () -> told(40, 60, 5));
        land.order(40, 60, 5);
        is("2 100 5500 0", () -> land.account(4) + " " + land.account(3) + " " + land.account(2) + " " + land.size(0, 2, 3));
        saysSides((w, h) -> land.ifOrder(w, h, 1, 0));
        saysNumber(number -> land.ifOrder(1, 1, number, 3));

        says("`what`: 0: SHEETS that would be cut; 1: STRIPS that would be lost by that, together;");
        is("0 0", () -> land.ifOrder(40, 60, 3, 0) + " " + land.ifOrder(40, 60, 3, 1));
        is("2 100", () -> land.ifOrder(40, 60, 4, 0) + " " + land.ifOrder(40, 60, 4, 1));
        is("30 1000", () -> land.ifOrder(40, 60, 43, 0) + " " + land.ifOrder(40, 60, 43, 1));
        is("7 27", () -> land.ifOrder(1, 6, 1, 0) + " " + land.ifOrder(1, 6, 1, 1));

        says("2: LEFT areas, together (more than 2147483647 is told as that);");
        is(5500, () -> land.ifOrder(40, 60, 5, 2));
        load("land 0 500;series a 2000 2000 size 0 999");
        is("2146567284 2147483647 2147483647", () -> land.ifOrder(1001, 1001, 716, 2) + " " + land.ifOrder(1001, 1001, 717, 2)
            + " " + land.ifOrder(1001, 1001, 999, 2));

        says("3: SHEETS of the NEAREST SIZE that would be left");
        is("2 0 1 0", () -> land.ifOrder(40, 60, 1, 3) + " " + land.ifOrder(40, 60, 3, 3) + " " + land.ifOrder(40, 60, 4, 3)
            + " " + land.ifOrder(40, 60, 43, 3));
        is("0 9", () -> land.ifOrder(94, 135, 10, 3) + " " + land.ifOrder(94, 135, 1, 3));
        load("land 0 1;series a 9 9 size 0 9999");
        is(9000, () -> land.ifOrder(9, 9, 999, 3));

        says("Returns the number;");
        is("2 100 4400 1", () -> told(40, 60, 4));

        says("NONE if the ORDER would be refused.");
        is("-1 -1 -1 -1", () -> told(40, 60, 44));
        is("-1 -1 -1 -1", () -> told(201, 1, 1));
        saysRanges((w, h) -> land.ifOrder(w, h, 1, 0), number -> land.ifOrder(1, 1, number, 0));
        needsRange(0, 3, what -> land.ifOrder(1, 1, 1, what));
        land = new PaperLand();
        needsRange(0, 3, what -> land.ifOrder(1, 1, 1, what));
        needsRange(0, 3, what -> land.ifOrder(40, 60, 999, what));
    }

    private String told(int w, int h, int number) {
        return land.ifOrder(w, h, number, 0) + " " + land.ifOrder(w, h, number, 1) + " " + land.ifOrder(w, h, number, 2) + " "
            + land.ifOrder(w, h, number, 3);
    }

    private void mostOf() {
        section("Promise 29");
        says("Tells for how many SHEETS of a print an ORDER would not be refused.");
        is(43, () -> land.mostOf(40, 60));
        is("0 2", () -> land.whyNot(40, 60, 43, 0) + " " + land.whyNot(40, 60, 44, 0));
        is("10 4", () -> land.mostOf(94, 135) + " " + land.mostOf(54, 194));
        saysSides((w, h) -> land.mostOf(w, h));

        says("Returns the greatest such NUMBER, at most 999;");
        load("land 0 1;series a 20 20 size 0 998;series b 30 30 size 0 999;series c 40 40 size 0 1000");
        is("999 999 999", () -> land.mostOf(20, 20) + " " + land.mostOf(30, 30) + " " + land.mostOf(40, 40));
        load("land 0 1;series a 20 20 size 0 998;series b 40 10 size 0 7");
        is("998 7", () -> land.mostOf(20, 20) + " " + land.mostOf(40, 10));
        load("land 0 1;series a 20 20 size 0 9;series b 20 20 size 0 7");
        is(9, () -> land.mostOf(20, 20));

        says("0 if there is none.");
        is(0, () -> land.mostOf(201, 1));
        load("land 0 1;series a 20 20");
        is("0 0", () -> land.mostOf(20, 20) + " " + land.mostOf(21, 20));
        load("land 0 1");
        is(0, () -> land.mostOf(1, 1));

        says("Throws `IllegalArgumentException` if a number is out of its range");
        needsSides((w, h) -> land.mostOf(w, h));
    }

    private void cutsFor() {
        section("Promise 30");
        says("Tells how many SHEETS would have to be cut (as ORDERS do) so that there are some SHEETS of a SIZE.");
        is("0 2 3 6 8 30", () -> land.cutsFor(0, 2, 3) + " " + land.cutsFor(0, 2, 4) + " " + land.cutsFor(0, 2, 6) + " "
            + land.cutsFor(0, 2, 11) + " " + land.cutsFor(0, 2, 12) + " " + land.cutsFor(0, 2, 43));
        is("0 1 10", () -> land.cutsFor(0, 0, 10) + " " + land.cutsFor(0, 1, 2) + " " + land.cutsFor(0, 1, 20));

        says("`n`: 0 to 9");
        is("0 7", () -> land.cutsFor(0, 0, 1) + " " + land.cutsFor(0, 9, 1));
        is(INDEX, () -> land.cutsFor(0, 10, 1));
        is(INDEX, () -> land.cutsFor(0, -1, 1));

        says("`sheets`: 0 to 9999");
        is(0, () -> land.cutsFor(0, 0, 0));
        load("land 0 1;series a 2000 2000 size 1 5000;series b 1 1");
        is("5000 -1", () -> land.cutsFor(0, 2, 9999) + " " + land.cutsFor(0, 1, 9999));
        is("0 0 -1", () -> land.cutsFor(1, 9, 0) + " " + land.cutsFor(1, 1, 0) + " " + land.cutsFor(1, 1, 1));
        is(ARGUMENT, () -> land.cutsFor(0, 0, -1));
        is(ARGUMENT, () -> land.cutsFor(0, 0, 10000));

        says("Returns the number of SHEETS;");
        is(30, () -> land.cutsFor(0, 2, 43));

        says("NONE if the SUPPLY is less.");
        is("-1 -1 -1", () -> land.cutsFor(0, 2, 44) + " " + land.cutsFor(0, 0, 11) + " " + land.cutsFor(0, 9, 5505));
        isNot("-1", () -> land.cutsFor(0, 9, 5504));
        load("land 0 1;series a 2000 2000 size 1 4999;series b 2000 2000 size 0 9999");
        is("-1 4999", () -> land.cutsFor(0, 2, 9999) + " " + land.cutsFor(0, 2, 9998));
        is("5000 7500", () -> land.cutsFor(1, 1, 9999) + " " + land.cutsFor(1, 2, 9999));

        says("Throws `IndexOutOfBoundsException` if there is no such SERIES or SIZE");
        needsSize((series, n) -> land.cutsFor(series, n, -1));

        says("Throws `IllegalArgumentException` if sheets is out of range");
        needsRange(0, 9999, sheets -> land.cutsFor(0, 0, sheets));
        needsRange(0, 9999, sheets -> land.cutsFor(1, 9, sheets));
    }
}
