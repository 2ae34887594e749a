/** The terms of the document (sections 1 to 5), sentence by sentence. */
final class TermsSentences extends BySentence {
    private static final String FIVE =
        "land 0 1;series a 1 1;series b 1 1;series c 1 1;series d 1 1;series e 1 1";

    TermsSentences(Document document, Check check) {
        super(document, check);
    }

    @Override
    void run() {
        constants();
        terms();
        series();
        sizes();
        stacks();
        folds();
        leaves();
        supply();
        nearest();
        filling();
        tokens();
        grammar();
        ranges();
        reading();
        codes();
        changes();
        refusals();
        scripts();
        exceptions();
    }

    private void constants() {
        section("constants");
        says("The constants: `NONE = -1`: There is none.");
        is(-1, () -> PaperLand.NONE);
        is(-1, () -> land.undo());
    }

    private void terms() {
        section("Terms");
        says("A fold halves the longer side.");
        is("2 1", () -> land.grid(0, 0, 1, false) + " " + land.grid(0, 0, 1, true));
        is("1 2", () -> land.grid(0, 1, 1, false) + " " + land.grid(0, 1, 1, true));
        says("All numbers are integers unless a float or a double is named. A division of integers is rounded down.");
        is("100 70", () -> land.size(0, 1, 0) + " " + land.size(0, 1, 1));
        is("25 17", () -> land.size(0, 5, 0) + " " + land.size(0, 5, 1));
        land.setReam(6);
        is(1, () -> land.size(0, 0, 4));
        is(1.41, () -> land.ratio(0, 0));
    }

    // ---- 1. Sizes

    private void series() {
        section("section 1");
        says("There are at most 5 SERIES, numbered from 0,");
        load(FIVE);
        is(5, () -> land.count(0));
        is('a', () -> land.letter(0, 0));
        is('e', () -> land.letter(4, 0));
        is(INDEX, () -> land.letter(5, 0));
        is(INDEX, () -> land.letter(-1, 0));
        say("f");
        is(-1, () -> land.found(1, 1));
        is("-1 4 74", () -> Check.loadError(FIVE + ";series f 1 1"));
        load("land 0 1");
        is(0, () -> land.count(0));

        says("each with a name (1 to 6 letters a to z;");
        for (String bad : new String[] {"", "abcdefg", "`", "{", "A", "Z", "a`", "z{z", "0", "\u00e9", "a b"}) {
            say(bad);
            is(-1, () -> land.found(1, 1));
        }
        say("z");
        is(2, () -> land.found(1, 1));
        say("azazaz");
        is(3, () -> land.found(1, 1));
        is("azazaz", () -> name(3));
        is("-1 2 16", () -> Check.loadError("land 0 1;series abcdefg 1 1"));
        is("-1 1 16", () -> Check.loadError("land 0 1;series ` 1 1"));
        is("-1 1 16", () -> Check.loadError("land 0 1;series { 1 1"));
        is("-1 1 16", () -> Check.loadError("land 0 1;series A 1 1"));
        is("-1 1 17", () -> Check.loadError("land 0 1;series z{ 1 1"));
        is("1 0 -1", () -> Check.loadError("land 0 1;series zyxwva 1 1"));

        says("no two with the same one)");
        is("-1 3 29", () -> Check.loadError("land 0 1;series a 1 1;series a 2 2"));
        is("-1 3 42", () -> Check.loadError("land 0 1;series a 1 1;series b 1 1;series a 2 2"));
        is("3 0 -1", () -> Check.loadError("land 0 1;series ab 1 1;series a 1 1;series abc 1 1"));
        is("2 0 -1", () -> Check.loadError("land 0 1;series ab 1 1;series ba 1 1"));
        say("long");
        is(-1, () -> land.found(1, 1));
        say("lon");
        is(2, () -> land.found(1, 1));
        say("longe");
        is(3, () -> land.found(1, 1));

        says("and a WIDE and a HIGH side (1 to 2000 each).");
        is("-1 2 18", () -> Check.loadError("land 0 1;series a 0 1"));
        is("-1 2 20", () -> Check.loadError("land 0 1;series a 1 0"));
        is("-1 2 18", () -> Check.loadError("land 0 1;series a 2001 1"));
        is("-1 2 20", () -> Check.loadError("land 0 1;series a 1 2001"));
        load("land 0 1;series a 1 2000;series b 2000 1");
        is("1 2000 2000 1", () -> land.size(0, 0, 0) + " " + land.size(0, 0, 1) + " " + land.size(1, 0, 0) + " "
            + land.size(1, 0, 1));
    }

    private void sizes() {
        says("A SERIES has the SIZES 0 to 9.");
        is(6, () -> land.size(0, 9, 0));
        is(INDEX, () -> land.size(0, 10, 0));
        is(INDEX, () -> land.size(0, -1, 0));

        says("SIZE 0 has the sides of the SERIES;");
        is("60 200", () -> land.size(1, 0, 0) + " " + land.size(1, 0, 1));
        load("land 0 1;series a 200 60");
        is("200 60", () -> land.size(0, 0, 0) + " " + land.size(0, 0, 1));

        says("SIZE N + 1 has those of SIZE N, but the longer one (HIGH, if both are the same) divided by 2;");
        load("land 0 1;series a 8 8;series b 9 8;series c 8 9;series d 2000 1999");
        is("8 8 4 4 2 2 1 0 0 0", () -> row(0, 0));
        is("8 4 4 2 2 1 1 0 0 0", () -> row(0, 1));
        is("9 4 4 4 2 2 1 0 0 0", () -> row(1, 0));
        is("8 8 4 2 2 1 1 0 0 0", () -> row(1, 1));
        is("8 8 4 4 2 2 1 0 0 0", () -> row(2, 0));
        is("9 4 4 2 2 1 1 0 0 0", () -> row(2, 1));
        is("2000 1000 1000 500 500 250 250 125 125 62", () -> row(3, 0));
        is("1999 1999 999 999 499 499 249 249 124 124", () -> row(3, 1));

        says("a SIZE of which a side would be 0 has 0 for both sides,");
        load("land 0 1;series a 1 1;series b 1 2;series c 2 1;series d 3 1");
        is("0 0", () -> land.size(0, 1, 0) + " " + land.size(0, 1, 1));
        is("1 1 0 0", () -> land.size(1, 1, 0) + " " + land.size(1, 1, 1) + " " + land.size(1, 2, 0) + " "
            + land.size(1, 2, 1));
        is("1 1 0 0", () -> land.size(2, 1, 0) + " " + land.size(2, 1, 1) + " " + land.size(2, 2, 0) + " "
            + land.size(2, 2, 1));
        is("1 1 0 0", () -> land.size(3, 1, 0) + " " + land.size(3, 1, 1) + " " + land.size(3, 2, 0) + " "
            + land.size(3, 2, 1));

        says("and so have those behind it (these SIZES are VOID).");
        load("land 0 1;series a 1 1;series b 4 4;series c 2000 1");
        is("1 0 0 0 0 0 0 0 0 0", () -> row(0, 0));
        is("1 0 0 0 0 0 0 0 0 0", () -> row(0, 1));
        is("0 1 1 1 1 1 1 1 1 1", () -> row(0, 9));
        is("0 0 0 0 0 1 1 1 1 1", () -> row(1, 9));
        is("0 0 0 0 0 0 0 0 0 0", () -> row(2, 9));
        is("2000 1000 500 250 125 62 31 15 7 3", () -> row(2, 0));

        says("AREA of a SIZE is WIDE times HIGH.");
        is("14100 7000 3500 1750 875 425 204 96 48 24", () -> row(0, 2));
        load("land 0 1;series a 2000 2000;series b 1 1");
        is(4000000, () -> land.size(0, 0, 2));
        is("1 0", () -> land.size(1, 0, 2) + " " + land.size(1, 1, 2));

        says("The STRIP of a SIZE is the AREA that is lost when it is cut: its AREA less 2 times that of the next SIZE;");
        is("100 0 0 0 25 17 12 0 0 -1", () -> row(0, 5));
        is("0 0 0 0 0 15 12 0 6 -1", () -> row(1, 5));

        says("it is VOID to cut a SIZE if the next one is VOID, or there is no next one.");
        load("land 0 1;series a 3 3 size 0 1 size 1 1 size 2 1;series b 900 900 size 8 1 size 9 1");
        is("3 1 -1 -1 -1 -1 -1 -1 -1 -1", () -> row(0, 5));
        is(3, () -> land.cut(0, 0, 1));
        is(-3, () -> land.cut(0, 2, 1));
        is(-3, () -> land.cut(0, 3, 1));
        is(3, () -> land.cut(1, 8, 1));
        is(-3, () -> land.cut(1, 9, 1));
    }

    private void stacks() {
        says("For each SIZE there is a STACK of SHEETS (0 to 9999).");
        load("land 0 1;series a 900 900 size 0 0 size 3 9999 size 9 9998");
        is("0 0 0 9999 0 0 0 0 0 9998", () -> row(0, 3));
        is(-5, () -> land.buy(0, 3, 1));
        is(9999, () -> land.buy(0, 9, 1));
        is(-5, () -> land.buy(0, 9, 1));
        is("-1 2 29", () -> Check.loadError("land 0 1;series a 9 9 size 0 10000"));

        says("REAM (1 to 500) is the number of SHEETS of a ream.");
        land.setReam(1);
        is(11, () -> land.buy(0, 0, 1));
        land.setReam(500);
        is(511, () -> land.buy(0, 0, 1));
        is(1, () -> land.size(0, 0, 4));
        is(ARGUMENT, () -> land.setReam(0));
        is(ARGUMENT, () -> land.setReam(501));
        is("-1 2 7", () -> Check.loadError("land 0 0"));
        is("-1 2 7", () -> Check.loadError("land 0 501"));
        is("0 0 -1", () -> Check.loadError("land 0 500"));

        says("EDGE (0 to 50) is what a printer trims from each side: the USABLE sides of a SIZE are its sides less 2 times EDGE each,");
        is("94 94 44 44 19 19 6 6 0 0", () -> row(0, 6));
        is("135 64 64 29 29 11 11 2 2 0", () -> row(0, 7));
        land.setEdge(0);
        is("100 100 50 50 25 25 12 12 6 6", () -> row(0, 6));
        land.setEdge(50);
        is("0 41", () -> land.size(0, 0, 6) + " " + land.size(0, 0, 7));
        is(ARGUMENT, () -> land.setEdge(51));
        is(ARGUMENT, () -> land.setEdge(-1));
        is("-1 2 5", () -> Check.loadError("land 51 1"));
        is("0 0 -1", () -> Check.loadError("land 50 1"));
        is("0 0 -1", () -> Check.loadError("land 0 1"));

        says("but not below 0.");
        load("land 4 1;series a 7 8;series b 9 1");
        is("0 0 0 0 0 0 0 0 0 0", () -> row(0, 6));
        is("0 0 0 0 0 0 0 0 0 0", () -> row(0, 7));
        is("1 0", () -> land.size(1, 0, 6) + " " + land.size(1, 0, 7));
        land.setEdge(50);
        is("0 0", () -> land.size(1, 0, 6) + " " + land.size(1, 9, 7));
    }

    // ---- 2. Folds

    private void folds() {
        section("section 2");
        says("A SHEET of a SIZE is folded some times (0 to 5),");
        is(5, () -> land.mostFolds(0, 0));
        is(1, () -> land.grid(0, 0, 0, false));
        is(8, () -> land.grid(0, 0, 5, false));
        is(ARGUMENT, () -> land.grid(0, 0, 6, false));
        is(ARGUMENT, () -> land.grid(0, 0, -1, false));

        says("so that the SIZES behind it by up to as many are not VOID.");
        is("5 4 0", () -> land.mostFolds(0, 4) + " " + land.mostFolds(0, 5) + " " + land.mostFolds(0, 9));
        is(ARGUMENT, () -> land.grid(0, 5, 5, false));
        is(ARGUMENT, () -> land.grid(0, 9, 1, false));
        load("land 0 1;series a 3 2;series b 1 1");
        is("2 1 0 -1", () -> land.mostFolds(0, 0) + " " + land.mostFolds(0, 1) + " " + land.mostFolds(0, 2) + " "
            + land.mostFolds(0, 3));
        is(ARGUMENT, () -> land.grid(0, 0, 3, false));
        is(1, () -> land.grid(1, 0, 0, false));
        is(ARGUMENT, () -> land.grid(1, 0, 1, false));
        is(ARGUMENT, () -> land.grid(1, 1, 0, false));

        says("Each fold halves the side that the SIZE then has as the longer one (as for SIZES).");
        load("land 0 1;series a 8 8;series b 9 8;series c 2000 1");
        is("2 1", () -> land.grid(0, 0, 1, false) + " " + land.grid(0, 0, 1, true));
        is("2 2", () -> land.grid(0, 0, 2, false) + " " + land.grid(0, 0, 2, true));
        is("1 2", () -> land.grid(1, 0, 1, false) + " " + land.grid(1, 0, 1, true));
        is("2 2", () -> land.grid(1, 0, 2, false) + " " + land.grid(1, 0, 2, true));
        is("1 32", () -> land.grid(2, 0, 5, false) + " " + land.grid(2, 0, 5, true));

        says("So the SHEET has ROWS and COLUMNS of CELLS: ROWS is 2 to the power of the folds that halve HIGH, "
            + "COLUMNS of those that halve WIDE;");
        load("land 0 1;series a 1 2000;series b 900 100");
        is("32 1", () -> land.grid(0, 0, 5, false) + " " + land.grid(0, 0, 5, true));
        is("1 1", () -> land.grid(0, 0, 0, false) + " " + land.grid(0, 0, 0, true));
        is("1 8", () -> land.grid(1, 0, 3, false) + " " + land.grid(1, 0, 3, true));
        is("1 16", () -> land.grid(1, 0, 4, false) + " " + land.grid(1, 0, 4, true));
        is("2 16", () -> land.grid(1, 0, 5, false) + " " + land.grid(1, 0, 5, true));

        says("the row 0 is the upper one, the column 0 the left one.");
        // The lower half comes upon the upper one, the right half upon the left one: so they are the uppermost.
        is("3 2", () -> land.page(0, 0, 1, 0, 0, false) + " " + land.page(0, 0, 1, 1, 0, false));
        is("3 2", () -> land.page(0, 1, 1, 0, 0, false) + " " + land.page(0, 1, 1, 0, 1, false));
    }

    private void leaves() {
        says("At first each CELL lies alone at its place, with its front up.");
        is("1 2", () -> land.page(0, 0, 0, 0, 0, false) + " " + land.page(0, 0, 0, 0, 0, true));

        says("A fold that halves HIGH lays the lower half of the places on the upper one, turned over: on a place of the "
            + "upper half at row R (of so many rows then, numbered from 0) comes what lies at the last row less R, in the "
            + "same column, in the opposite order and with the other sides up, above what lies there.");
        load("land 0 1;series a 1 2000;series b 90 90");
        is("3\n2\n", () -> Check.sheet(land, 0, 0, 1, false));
        is("4\n1\n", () -> Check.sheet(land, 0, 0, 1, true));
        // Rows 0 to 3: by the first fold 3 on 0 and 2 on 1; by the second these, turned over, on those: 1 2 3 0.
        is("7\n2\n3\n6\n", () -> Check.sheet(land, 0, 0, 2, false));
        is("8\n1\n4\n5\n", () -> Check.sheet(land, 0, 0, 2, true));
        // By the third, from the uppermost one: 1 6 5 2 3 4 7 0.
        is("15\n2\n7\n10\n11\n6\n3\n14\n", () -> Check.sheet(land, 0, 0, 3, false));
        is("7 2\n6 3\n", () -> Check.sheet(land, 1, 0, 2, false));

        says("A fold that halves WIDE lays the right half on the left one, likewise.");
        load("land 0 1;series a 2000 1");
        is("3 2\n", () -> Check.sheet(land, 0, 0, 1, false));
        is("7 2 3 6\n", () -> Check.sheet(land, 0, 0, 2, false));
        is("8 1 4 5\n", () -> Check.sheet(land, 0, 0, 2, true));
        is("15 2 7 10 11 6 3 14\n", () -> Check.sheet(land, 0, 0, 3, false));
        land = new PaperLand();
        is("7 2\n6 3\n", () -> Check.sheet(land, 0, 0, 2, false));
        is("7 6\n2 3\n", () -> Check.sheet(land, 0, 1, 2, false));

        says("At last all CELLS lie at one place.");
        // So each of the 64 sides is a page of its own.
        is(64, () -> {
            java.util.Set<Integer> pages = new java.util.TreeSet<>();
            for (int cell = 0; cell < 32; cell++) {
                pages.add(land.page(0, 0, 5, cell / 4, cell % 4, false));
                pages.add(land.page(0, 0, 5, cell / 4, cell % 4, true));
            }
            return pages.size();
        });
        is("0 1", () -> land.cellOf(0, 9, 0, 1) + " " + land.cellOf(0, 9, 0, 2));

        says("They are the LEAVES, numbered from 0 for the uppermost one;");
        is("201 200", () -> land.cellOf(0, 0, 1, 1) + " " + land.cellOf(0, 0, 1, 2));
        is("0 1", () -> land.cellOf(0, 0, 1, 3) + " " + land.cellOf(0, 0, 1, 4));
        is(INDEX, () -> land.cellOf(0, 0, 1, 5));

        says("the side of the LEAF L that is up is the PAGE 2 L + 1, the other one the PAGE 2 L + 2.");
        for (int row = 0; row < 8; row++) {
            for (int column = 0; column < 4; column++) {
                int r = row;
                int c = column;
                is(true, () -> {
                    int front = land.page(0, 0, 5, r, c, false);
                    int back = land.page(0, 0, 5, r, c, true);
                    return (front % 2 == 1 ? back == front + 1 : back == front - 1) && front >= 1 && front <= 64;
                });
            }
        }
    }

    // ---- 3. Supply and orders

    private void supply() {
        section("section 3");
        says("The SUPPLY of a SIZE is its SHEETS plus 2 times the SUPPLY of the SIZE ahead of it (if there is one),");
        is("10 20 43 86 172 344 688 1376 2752 5504", () -> row(0, 8));
        load("land 0 1;series a 900 900 size 0 7;series b 900 900 size 9 5");
        is("7 14 28 56 112 224 448 896 1792 3584", () -> row(0, 8));
        is("0 0 0 0 0 0 0 0 0 5", () -> row(1, 8));

        says("but at most 9999");
        load("land 0 1;series a 900 900 size 0 4999;series b 900 900 size 0 5000;series c 900 900 size 0 4999 size 1 2;"
            + "series d 900 900 size 8 9999 size 9 9999");
        is("4999 9998 9999 9999 9999 9999 9999 9999 9999 9999", () -> row(0, 8));
        is("5000 9999 9999 9999 9999 9999 9999 9999 9999 9999", () -> row(1, 8));
        is("4999 9999 9999 9999 9999 9999 9999 9999 9999 9999", () -> row(2, 8));
        is("0 0 0 0 0 0 0 0 9999 9999", () -> row(3, 8));
        is(5098, () -> land.buy(0, 0, 99));
        land.cut(0, 0, 1);
        is(9999, () -> land.size(0, 1, 8));

        says("(0 for a VOID one).");
        load("land 0 1;series a 2 1 size 0 9 size 1 3");
        is("9 21 0 0 0 0 0 0 0 0", () -> row(0, 8));

        says("An ORDER tells the sides W and H (1 to 2000 each) of a print");
        is(107, () -> land.nearest(1, 1, 1));
        is(-1, () -> land.nearest(2000, 2000, 1));
        needsSides((w, h) -> land.nearest(w, h, 1));
        needsSides((w, h) -> land.order(w, h, 1));
        is("-1 2 6", () -> Check.playError("order 0 1 1;"));
        is("-1 2 6", () -> Check.playError("order 2001 1 1;"));
        is("-1 2 8", () -> Check.playError("order 1 0 1;"));
        is("-1 2 8", () -> Check.playError("order 1 2001 1;"));
        is("0 0 -1", () -> Check.playError("order 2000 2000 1;"));

        says("and a NUMBER (1 to 999).");
        needsRange(1, 999, number -> land.order(1, 1, number));
        is("-1 2 10", () -> Check.playError("order 1 1 0;"));
        is("-1 2 10", () -> Check.playError("order 1 1 1000;"));
        is("1 0 -1", () -> Check.playError("order 1 1 999;"));
    }

    private void nearest() {
        says("A SIZE FITS if W is at most its USABLE WIDE and H at most its USABLE HIGH, or W at most its USABLE HIGH and "
            + "H at most its USABLE WIDE.");
        load("land 3 1;series a 26 36");
        // USABLE: 20 and 30, then 20 and 12, then 7 and 12, then 7 and 3, then 0 and 3.
        is("1 0 0 1 0 0", () -> land.fitting(20, 30) + " " + land.fitting(21, 30) + " " + land.fitting(20, 31) + " "
            + land.fitting(30, 20) + " " + land.fitting(30, 21) + " " + land.fitting(31, 20));
        is("2 1 2 1", () -> land.fitting(20, 12) + " " + land.fitting(20, 13) + " " + land.fitting(12, 20) + " "
            + land.fitting(13, 20));
        is("4 4", () -> land.fitting(3, 7) + " " + land.fitting(7, 3));
        is("4 3", () -> land.fitting(1, 1) + " " + land.fitting(4, 4));

        says("The LEFT area is its AREA less W times H.");
        is("1100 2200", () -> land.ifOrder(40, 60, 1, 2) + " " + land.ifOrder(40, 60, 2, 2));
        load("land 0 1;series a 2000 2000 size 0 1;series b 3 4 size 0 1");
        is(0, () -> land.ifOrder(2000, 2000, 1, 2));
        is("0 0", () -> land.ifOrder(4, 3, 1, 2) + " " + land.ifOrder(3, 4, 1, 2));

        says("The NEAREST SIZE is, of those that FIT and have a SUPPLY of NUMBER or more, the one with the least LEFT area;");
        load("land 0 1;series a 40 20 size 0 3 size 1 4;series b 19 21 size 0 5");
        // AREA 800 and a SUPPLY of 3, 400 and 10, 399 and 5.
        is("100 100 1 1 -1", () -> land.nearest(19, 20, 1) + " " + land.nearest(19, 20, 5) + " "
            + land.nearest(19, 20, 6) + " " + land.nearest(19, 20, 10) + " " + land.nearest(19, 20, 11));
        is("0 0 -1", () -> land.nearest(40, 20, 1) + " " + land.nearest(40, 20, 3) + " " + land.nearest(40, 20, 4));
        is("1 100", () -> land.nearest(20, 20, 1) + " " + land.nearest(21, 19, 1));

        says("of several that of the lowest SERIES, of these the one with the greatest number.");
        load("land 0 1;series a 20 10 size 0 3;series b 10 20 size 0 9;series c 40 10 size 0 1 size 1 8");
        is("0 0 100 100 201 -1", () -> land.nearest(10, 20, 1) + " " + land.nearest(10, 20, 3) + " "
            + land.nearest(10, 20, 4) + " " + land.nearest(10, 20, 9) + " " + land.nearest(10, 20, 10) + " "
            + land.nearest(10, 20, 11));
        load("land 0 1;series a 20 10 size 0 1;series b 40 10 size 0 2");
        is("0 101 101", () -> land.nearest(10, 20, 1) + " " + land.nearest(10, 20, 2) + " " + land.nearest(20, 10, 4));
        // Two SIZES of one SERIES that FIT never have the same LEFT area: the next one has half the AREA at most.
        is("200 100 50 25 10 4 2 1 0 0", () -> row(0, 2));
    }

    private void filling() {
        says("It is filled in the following way: as long as there are fewer SHEETS of the SIZE than NUMBER, one SHEET of "
            + "the SIZE ahead of it is cut; if there is none of that, one is cut for it first, and so on.");
        is(2, () -> land.order(40, 60, 3));
        is("10 0 0 0 0 0 0 0 0 0", () -> row(0, 3));
        is(2, () -> land.order(40, 60, 1));
        is("9 1 1 0 0 0 0 0 0 0", () -> row(0, 3));
        is(2, () -> land.order(40, 60, 4));
        is("8 1 1 0 0 0 0 0 0 0", () -> row(0, 3));
        // Nothing is cut for an ORDER of the SIZE 0, or if there are enough, whatever was cut or told before.
        is(3, () -> land.cutsFor(0, 2, 5));
        is(0, () -> land.order(94, 135, 1));
        is("7 1 1 0 0 0 0 0 0 0", () -> row(0, 3));
        is(1, () -> land.order(94, 64, 1));
        is("7 0 1 0 0 0 0 0 0 0", () -> row(0, 3));
        is(2, () -> land.order(40, 60, 29));
        is("0 0 0 0 0 0 0 0 0 0", () -> row(0, 3));
        is(101, () -> land.order(40, 60, 1));
        is("3 1 0 0 0 0 0 0 0 0", () -> row(1, 3));

        // Up to the last SIZE, and through all of them.
        load("land 0 1;series a 900 900 size 8 3;series b 2000 2000 size 0 1");
        is("9 3", () -> land.order(28, 56, 5) + " " + land.account(4));
        is("0 0 0 0 0 0 0 0 0 1", () -> row(0, 3));
        is("109 9", () -> land.order(60, 120, 1) + " " + (land.account(4) - 3));
        is("0 1 1 1 1 1 1 1 1 1", () -> row(1, 3));

        says("A SHEET that is cut is one less of its SIZE and 2 more of the next one.");
        is(2, () -> land.cut(0, 0, 1));
        is("9 2 3 0 0 0 0 0 0 0", () -> row(0, 3));
        land.order(25, 10, 1);
        is("9 2 2 1 1 0 0 0 0 0", () -> row(0, 3));

        says("Then NUMBER SHEETS of the NEAREST SIZE go.");
        land.order(40, 60, 2);
        is("10 0 1 0 0 0 0 0 0 0", () -> row(0, 3));
        is(2, () -> land.account(6));
        load("land 0 1;series a 20 10 size 0 999");
        land.order(20, 10, 999);
        is(0, () -> land.count(1));

        says("The first 30 different prints (W and H) that were ordered so are kept with their NUMBERS; later ones are not.");
        load("land 0 1;series a 900 900 size 0 99");
        for (int w = 1; w <= 29; w++) {
            land.order(800, 700 + w, 1);
        }
        is(29, () -> land.count(5));
        land.order(800, 701, 2);
        land.order(2000, 1, 1);
        land.order(800, 800, 99);
        is(29, () -> land.count(5));
        land.order(701, 800, 3);
        is("30 701 800 3", () -> land.count(5) + " " + print(29));
        land.order(800, 800, 4);
        is("30 0 800 701 3", () -> land.count(5) + " " + land.ordered(800, 800) + " " + print(0));
        land.order(701, 800, 3);
        is("701 800 6", () -> print(29));

        says("An ORDER is refused, as the first that applies: 1: no SIZE FITS;");
        is("-6 1", () -> land.order(201, 1, 1) + " " + land.whyNot(201, 1, 1, 0));
        is("-6 1", () -> land.order(201, 1, 999) + " " + land.whyNot(201, 1, 999, 0));
        load("land 0 1");
        is("-6 1", () -> land.order(1, 1, 1) + " " + land.whyNot(1, 1, 1, 0));

        says("2: none of those that FIT has a SUPPLY of NUMBER or more.");
        is("2 -7 0 2", () -> land.whyNot(40, 60, 44, 0) + " " + land.order(40, 60, 44) + " "
            + land.whyNot(40, 60, 43, 0) + " " + land.order(40, 60, 43));
        load("land 0 1;series a 20 10");
        is("2 -7", () -> land.whyNot(20, 10, 1, 0) + " " + land.order(20, 10, 1));
    }

    // ---- 4. Text format

    private void tokens() {
        section("section 4");
        says("The text buffer holds at most 600 bytes.");
        for (int k = 1; k <= 30; k++) {
            int due = 20 * k;
            is(due, () -> land.append(0, 0, 0, 0, 0));
        }
        is(STATE, () -> land.append(0, 0, 0, 0, 0));
        is(600, () -> land.truncate(600));
        say("land 3 " + " ".repeat(592) + "7");
        is("0 7", () -> land.load() + " " + land.count(4));
        is("-1 1 599", () -> Check.loadError("land 3 7" + "\n".repeat(591) + ")"));

        says("Tokens are words (a run of the letters a to z), numbers (a run of digits 0 to 9, leading zeros do not matter) "
            + "and the signs ; ( and ).");
        is("2 0 -1", () -> Check.loadError("land3 50;series a9 9size0 9size1 9;series z2000 2000"));
        is("-1 1 0", () -> Check.loadError("landx 3 50"));
        is("-1 1 9", () -> Check.loadError("land3 50;seriesa 1 1"));
        is("0 0 -1", () -> Check.loadError("land " + "0".repeat(300) + "50 00001"));
        is("-1 2 5", () -> Check.loadError("land " + "0".repeat(300) + "51 00001"));
        is("2 0 -1", () -> Check.playError("again2(edge0;)  ;"));
        is("-1 1 6", () -> Check.playError("edge 5:"));
        is("-1 1 5", () -> Check.playError("edge / 5;"));
        is("-1 1 5", () -> Check.playError("edge :"));
        is("-1 1 6", () -> Check.playError("edge 0.5;"));
        is("-1 1 0", () -> Check.playError("{edge 5;}"));
        is("-1 1 4", () -> Check.playError("edge` 5;"));

        says("Blanks (byte 32) and line feeds (byte 10) may stand ahead of each token and at the end.");
        is("1 0 -1", () -> Check.loadError("\n \nland \n3\n\n50 \n;\nseries\na\n9 \n 9\nsize \n0\n\n9  \n"));
        is("2 0 -1", () -> Check.playError(" \nagain\n2 \n( \nedge \n1 ; \n) \n; \n\n"));
        is("-1 1 0", () -> Check.loadError("la nd 3 50"));
        is("-1 1 7", () -> Check.playError("edge 1 0;"));
        for (int other : new int[] {0, 9, 11, 13, 31, 33, 42, 127, 128, 138, 160, 255}) {
            is("-1 1 4", () -> Check.playError("edge" + (char) other + "5;"));
            is("-1 1 0", () -> Check.playError((char) other + "edge 5;"));
            is("-1 1 8", () -> Check.loadError("land 0 1" + (char) other));
        }
    }

    private void grammar() {
        says("Braces mean any number of times; quoted parts stand for themselves, a bar separates alternatives.");
        is("0 0 -1", () -> Check.playError(""));
        is("0 0 -1", () -> Check.loadError("land 0 1"));
        is("1 0 -1", () -> Check.loadError("land 0 1;series a 900 900 size 9 1 size 8 1 size 7 1 size 6 1 size 5 1"
            + " size 4 1 size 3 1 size 2 1 size 1 1 size 0 1"));
        is("-1 3 121", () -> Check.loadError("land 0 1;series a 900 900 size 9 1 size 8 1 size 7 1 size 6 1 size 5 1"
            + " size 4 1 size 3 1 size 2 1 size 1 1 size 0 1 size 0 1"));
        is("5 0 -1", () -> Check.loadError(FIVE));
        is("-1 1 9", () -> Check.loadError("land 0 1;Series a 1 1"));
        everyOtherWord("", "land", " 0 1;series a 1 1 size 0 1", true);
        everyOtherWord("land 0 1;", "series", " a 1 1 size 0 1", true);
        everyOtherWord("land 0 1;series a 1 1 ", "size", " 0 1", true);
        everyOtherWord("edge 1;", "buy", " a 0 1;", false);
        everyOtherWord("edge 1;", "cut", " a 0 1;", false);
        everyOtherWord("edge 1;", "order", " 1 1 1;", false);
        everyOtherWord("edge 1;", "edge", " 1;", false);
        everyOtherWord("edge 1;", "ream", " 1;", false);
        everyOtherWord("edge 1;", "again", " 1();", false);

        says("setup = \"land\" EDGE REAM {\";\" \"series\" NAME WIDE HIGH {\"size\" N SHEETS}}");
        String setup = "land 3 50;series abc 90 80 size 1 7 size 0 5;series b 1 2";
        load(setup);
        is("2 12 2 3 50 0 0", () -> Check.counts(land));
        is("abc 90 80 5 7", () -> name(0) + " " + land.size(0, 0, 0) + " " + land.size(0, 0, 1) + " "
            + land.size(0, 0, 3) + " " + land.size(0, 1, 3));
        everyEnd(setup, true, 8, 9, 25, 26, 27, 35, 36, 44, 57);
        is("-1 1 9", () -> Check.loadError("land 3 50(series abc 90 80"));
        is("-1 1 30", () -> Check.loadError("land 3 50;series abc 90 80size"));
        is("-1 1 34", () -> Check.loadError("land 3 50;series abc 90 80 size 1 ;"));
        is("-1 1 10", () -> Check.loadError("land 3 50;size 1 7"));
        is("-1 1 36", () -> Check.loadError("land 3 50;series abc 90 80 size 1 7;size 0 5"));

        says("script = {order \";\"}");
        is("2 0 -1", () -> Check.playError("edge 1;edge 2;"));
        is("-1 1 13", () -> Check.playError("edge 1;edge 2"));
        is("-1 1 7", () -> Check.playError("edge 1 edge 2;"));
        is("-1 1 7", () -> Check.playError("edge 1;;"));
        is("-1 1 0", () -> Check.playError(";"));
        everyEnd("buy a 0 1;cut b 1 2;order 3 4 5;edge 6;ream 7;again 8(edge 9;);", false, 0, 10, 20, 32, 39, 46, 63);

        says("order = \"buy\" NAME N REAMS | \"cut\" NAME N SHEETS | \"order\" W H NUMBER | \"edge\" EDGE | \"ream\" REAM | "
            + "\"again\" TIMES \"(\" script \")\"");
        is(6, () -> play("ream 7;buy royal 1 2;cut royal 0 3;edge 0;order 60 200 2;again 1(edge 2;);"));
        is("2 32 4 2 7 1 1", () -> Check.counts(land));
        for (String word : new String[] {"buy", "cut"}) {
            is("-1 1 3", () -> Check.playError(word));
            is("-1 1 4", () -> Check.playError(word + " 1 1 1;"));
            is("-1 1 5", () -> Check.playError(word + " a;"));
            is("-1 1 6", () -> Check.playError(word + " a b 1;"));
            is("-1 1 7", () -> Check.playError(word + " a 1;"));
            is("-1 1 9", () -> Check.playError(word + " a 1 1"));
            is("-1 1 10", () -> Check.playError(word + " a 1 1 1;"));
        }
        is("-1 1 5", () -> Check.playError("order"));
        is("-1 1 6", () -> Check.playError("order royal 0 1;"));
        is("-1 1 9", () -> Check.playError("order 1 1;"));
        is("-1 1 11", () -> Check.playError("order 1 1 1"));
        is("-1 1 4", () -> Check.playError("edge;"));
        is("-1 1 4", () -> Check.playError("ream;"));
        is("-1 1 5", () -> Check.playError("again(edge 1;);"));
        is("-1 1 8", () -> Check.playError("again 2 edge 1;;"));
        is("-1 1 10", () -> Check.playError("again 2();)"));
        is("-1 1 9", () -> Check.playError("again 2()"));
        is("-1 1 8", () -> Check.playError("again 2(;);"));
        is("0 0 -1", () -> Check.playError("again 2();"));
    }

    /** Cut off at each place: an error at the end, or at a word of the grammar that is cut; none if it is whole there. */
    private void everyEnd(String text, boolean isSetup, int... wholes) {
        java.util.List<String> words = java.util.List.of("land", "series", "size", "buy", "cut", "order", "edge", "ream", "again");
        for (int length = 0; length <= text.length(); length++) {
            int end = length;
            String part = text.substring(0, end);
            boolean isWhole = java.util.Arrays.stream(wholes).anyMatch(whole -> whole == end);
            int wordAt = part.length() - part.replaceFirst("^.*?([a-z]*)$", "$1").length();
            String whole = text.substring(wordAt).replaceFirst("[^a-z].*$", "");
            boolean isCutWord = words.contains(whole) && wordAt < end && wordAt + whole.length() > end;
            String due = isWhole ? "0 -1" : "1 " + (isCutWord ? wordAt : end);
            is(due, () -> fault(part, isSetup));
        }
    }

    /** One letter of the word is another one, or missing, or one is too many: no such word stands there. */
    private void everyOtherWord(String ahead, String word, String behind, boolean isSetup) {
        is("0 -1", () -> fault(ahead + word + behind, isSetup));
        for (int at = 0; at < word.length(); at++) {
            String start = ahead + word.substring(0, at);
            String rest = word.substring(at + 1) + behind;
            is("1 " + ahead.length(), () -> fault(start + "q" + rest, isSetup));
            is("1 " + ahead.length(), () -> fault(start + rest, isSetup));
        }
        is("1 " + ahead.length(), () -> fault(ahead + word + "s" + behind, isSetup));
    }

    /** The code and the position of the error of a text. */
    private static String fault(String text, boolean isSetup) {
        PaperLand x = new PaperLand();
        int answer = isSetup ? Check.load(x, text) : Check.play(x, text);
        return (answer == -1) == (x.errorCode() != 0) ? x.errorCode() + " " + x.errorPosition() : "answer " + answer;
    }

    private void ranges() {
        says("A NAME is a word of 1 to 6 letters.");
        is("1 0 -1", () -> Check.loadError("land 0 1;series a 1 1"));
        is("1 0 -1", () -> Check.loadError("land 0 1;series series 1 1"));
        is("-1 2 16", () -> Check.loadError("land 0 1;series serieso 1 1"));
        is("0 0 -1", () -> Check.playError("buy abcdef 0 1;"));
        is("-1 2 4", () -> Check.playError("buy abcdefg 0 1;"));
        is("-1 2 4", () -> Check.playError("cut " + "a".repeat(300) + " 0 1;"));

        says("N is 0 to 9,");
        is("1 0 -1", () -> Check.loadError("land 0 1;series a 900 900 size 9 1"));
        is("-1 2 31", () -> Check.loadError("land 0 1;series a 900 900 size 10 1"));
        is("1 0 -1", () -> Check.playError("buy royal 9 1;"));
        is("-1 2 10", () -> Check.playError("buy royal 10 1;"));
        is("-1 2 10", () -> Check.playError("cut royal 10 1;"));

        says("SHEETS 0 to 9999 (of cut 1 to 9999),");
        is("1 0 -1", () -> Check.loadError("land 0 1;series a 9 9 size 0 0 size 1 9999"));
        is("-1 2 29", () -> Check.loadError("land 0 1;series a 9 9 size 0 10000"));
        is("-1 2 12", () -> Check.playError("cut royal 0 0;"));
        is("1 0 -1", () -> Check.playError("cut royal 0 1;"));
        is("0 0 -1", () -> Check.playError("cut royal 0 9999;"));
        is("-1 2 12", () -> Check.playError("cut royal 0 10000;"));

        says("REAMS 1 to 99,");
        is("-1 2 12", () -> Check.playError("buy royal 0 0;"));
        is("1 0 -1", () -> Check.playError("buy royal 0 1;"));
        is("1 0 -1", () -> Check.playError("buy royal 0 99;"));
        is("-1 2 12", () -> Check.playError("buy royal 0 100;"));

        says("TIMES 1 to 20.");
        is("-1 2 6", () -> Check.playError("again 0(edge 1;);"));
        is("1 0 -1", () -> Check.playError("again 1(edge 1;);"));
        is("20 0 -1", () -> Check.playError("again 20(edge 1;);"));
        is("-1 2 6", () -> Check.playError("again 21(edge 1;);"));
    }

    private void reading() {
        says("Reading stops at the first token, from the left, at which there is an error;");
        is("-1 2 5", () -> Check.loadError("land 51 0 x"));
        is("-1 1 4", () -> Check.loadError("land;series a 0 0"));
        is("-1 2 5", () -> Check.playError("edge 51;ream 0;?"));
        is("-1 1 0", () -> Check.playError("? edge 51;"));
        is(3, () -> {
            play("edge 7;edge 8;edge 51;");
            return land.count(3);
        });

        says("the lowest code that applies to this token is reported,");
        // A word that is no word of an order, where the 31st order would be; one of 7 letters that is none at all.
        is("-1 1 210", () -> Check.playError("edge 1;".repeat(30) + "abcdefg 1;"));
        is("-1 1 0", () -> Check.playError("abcdefg"));
        // Out of its range where it would be VOID as well, and told before.
        is("-1 2 27", () -> Check.loadError("land 0 1;series a 1 1 size 10 1"));
        is("-1 2 36", () -> Check.loadError("land 0 1;series a 9 9 size 0 0 size 10 1"));
        is("-1 4 213", () -> Check.playError("again 1(again 1(again 1(" + "edge 1;".repeat(27) + "again 21"));

        says("and the position of its first byte (the number of bytes of the text at its end):");
        is("-1 2 9", () -> Check.loadError("\n land  \n51 1"));
        is("-1 1 4", () -> Check.loadError("land"));
        is("-1 1 7", () -> Check.loadError("land  \n"));
        is("-1 1 0", () -> Check.loadError(""));
        is("-1 1 600", () -> Check.loadError("land" + " ".repeat(596)));
        is("-1 2 598", () -> Check.playError("edge" + " ".repeat(594) + "51"));
    }

    private void codes() {
        says("1: a token, a byte, or an end of the text that is not allowed here.");
        is("-1 1 7", () -> Check.loadError("land 0 )"));
        is("-1 1 7", () -> Check.loadError("land 0 x"));
        is("-1 1 7", () -> Check.loadError("land 0 \u00ff"));
        is("-1 1 7", () -> Check.loadError("land 0 "));
        is("-1 1 7", () -> Check.playError("again 1)"));
        is("-1 1 6", () -> Check.playError("edge 1\u0000;"));

        says("2: a number out of its range; a word of 7 or more letters where a NAME must be.");
        is("-1 2 5", () -> Check.loadError("land 2147483648 1"));
        is("-1 2 5", () -> Check.loadError("land 4294967296 1"));
        is("-1 2 5", () -> Check.loadError("land 18446744073709551616 1"));
        is("-1 2 5", () -> Check.loadError("land 1000000 1"));
        is("-1 2 7", () -> Check.loadError("land 0 501"));
        is("-1 2 16", () -> Check.loadError("land 0 1;series abcdefg abc"));
        is("-1 2 4", () -> Check.playError("cut abcdefg"));

        for (String order : new String[] {"edge 50;", "edge 0;", "ream 1;", "ream 500;"}) {
            is("1 0 -1", () -> Check.playError(order));
        }
        for (String order : new String[] {"edge 51;", "ream 0;", "ream 501;"}) {
            is("-1 2 5", () -> Check.playError(order));
        }

        says("3: in a setup the NAME of a series that another one has; an N that was told for the same series already, or is VOID.");
        is("-1 3 29", () -> Check.loadError("land 0 1;series a 1 1;series a"));
        is("-1 3 36", () -> Check.loadError("land 0 1;series a 9 9 size 0 0 size 0"));
        is("-1 3 27", () -> Check.loadError("land 0 1;series a 1 1 size 1"));
        is("2 0 -1", () -> Check.loadError("land 0 1;series a 9 9 size 0 1;series b 9 9 size 0 1"));
        is("2 0 -1", () -> Check.loadError("land 0 1;series a 900 900 size 9 1 size 0 1;series b 900 900 size 0 1 size 9 1"));
        for (int n = 0; n <= 9; n++) {
            String twice = "land 0 1;series a 900 900 size " + n + " 1 size " + n + " 1";
            is("-1 3 40", () -> Check.loadError(twice));
        }
        is("1 0 -1", () -> Check.loadError("land 0 1;series a 1 1 size 0 1"));
        // In a script a VOID one, or a name that there is not, is no error of the text.
        is("0 0 -1", () -> Check.playError("buy nobody 9 1;"));

        says("4: in a setup the word \"series\" of a sixth series;");
        is("-1 4 74", () -> Check.loadError(FIVE + ";series"));
        is("-1 1 74", () -> Check.loadError(FIVE + ";"));
        is("-1 1 74", () -> Check.loadError(FIVE + ";size"));
        is("-1 4 75", () -> Check.loadError(FIVE + ";\nseries a 0 0"));

        says("in a script the word of a 31st order (those in brackets and \"again\" count),");
        is("30 0 -1", () -> Check.playError("edge 1;".repeat(30)));
        is("-1 4 210", () -> Check.playError("edge 1;".repeat(30) + "edge"));
        is("29 0 -1", () -> Check.playError("again 1(" + "edge 1;".repeat(29) + ");"));
        is("-1 4 211", () -> Check.playError("again 1(" + "edge 1;".repeat(29) + "ream 1;);"));
        is("-1 4 213", () -> Check.playError("again 1(" + "edge 1;".repeat(29) + ");again 1();"));
        is("-1 1 211", () -> Check.playError("again 1(" + "edge 1;".repeat(29) + "x"));

        says("and an \"again\" that is within 3 others.");
        is("2 0 -1", () -> Check.playError("again 1(again 1(again 1(edge 1;););edge 2;);"));
        is("-1 4 24", () -> Check.playError("again 1(again 1(again 1(again"));
        is("-1 4 31", () -> Check.playError("again 1(again 1(again 1(edge 1;again 1(edge 1;););););"));
        is("0 0 -1", () -> Check.playError("again 1(again 1(again 1();again 1(););again 1(again 1(););again 1(););"));
    }

    // ---- 5. Changes, refusals, exceptions

    private void changes() {
        section("section 5");
        says("The methods that are documented as changes can be undone, the latest one first; so can the call of play, as a whole.");
        java.util.List<String> states = new java.util.ArrayList<>();
        Check.Call[] changes = {() -> land.buy(0, 0, 1), () -> land.cut(0, 0, 1), () -> land.order(40, 60, 3),
            () -> land.setEdge(9), () -> land.setReam(9), () -> play("edge 1;ream 2;buy royal 0 1;")};
        for (Check.Call change : changes) {
            states.add(0, withoutHistory());
            change.answer();
        }
        say("new");
        states.add(0, withoutHistory());
        land.found(5, 5);
        land.order(4, 4, 1);
        is(8, () -> land.count(6));
        is(7, () -> land.undo());
        for (int left = 6; left >= 0; left--) {
            int due = left;
            is(due, () -> land.undo());
            is(states.get(6 - left), () -> withoutHistory());
        }
        is(-1, () -> land.undo());

        says("Only the latest 8 changes since the latest load or restore are kept for this.");
        for (int edge = 10; edge <= 18; edge++) {
            land.setEdge(edge);
        }
        is(8, () -> land.count(6));
        for (int left = 7; left >= 0; left--) {
            int due = left;
            is(due, () -> land.undo());
        }
        is("-1 10", () -> land.undo() + " " + land.count(3));
        land.setEdge(20);
        land.save(0);
        land.restore(0);
        is("0 -1", () -> land.count(6) + " " + land.undo());
        land.setEdge(21);
        is("1 0 20 -1", () -> land.count(6) + " " + land.undo() + " " + land.count(3) + " " + land.undo());
        land.setEdge(22);
        load("land 7 7");
        is("0 -1 7", () -> land.count(6) + " " + land.undo() + " " + land.count(3));
    }

    /** All but the number of changes that can be undone. */
    private String withoutHistory() {
        return all().replaceFirst(" \\d+\\|", "|");
    }

    private void refusals() {
        says("A change that is refused returns a code below -1, the first that applies:");
        load("land 0 500;series a 3 3 size 0 4999 size 1 9999 size 2 9");
        is(-3, () -> land.cut(0, 2, 5000));
        is(-4, () -> land.cut(0, 0, 5000));
        is(-5, () -> land.cut(0, 0, 4999));
        is(-3, () -> land.buy(0, 3, 99));
        is(-5, () -> land.buy(0, 1, 99));
        is(-6, () -> land.order(4, 4, 999));
        is("0 2 1 2 1 0", () -> Check.refusals(land));

        says("-2 there is no such SERIES (by scripts only);");
        is("0 0", () -> play("buy none 9 99;") + " " + play("cut none 9 9999;"));
        is("2 0 0 0 0 0", () -> Check.refusals(land));
        is(INDEX, () -> land.buy(2, 0, 1));
        is(INDEX, () -> land.cut(2, 0, 1));
        is("2 0 0 0 0 0", () -> Check.refusals(land));

        says("-3 the SIZE is VOID, or VOID to cut (buy, cut);");
        load("land 0 1;series a 2 1 size 0 1 size 1 1;series b 900 900 size 9 1");
        is("2 -3 -3", () -> land.buy(0, 1, 1) + " " + land.buy(0, 2, 1) + " " + land.buy(0, 9, 1));
        is("4 -3 -3 -3", () -> land.cut(0, 0, 1) + " " + land.cut(0, 1, 1) + " " + land.cut(0, 2, 1) + " "
            + land.cut(1, 9, 1));
        is("2", () -> land.buy(1, 9, 1));

        says("-4 there are not so many SHEETS (cut);");
        is("-4 20", () -> land.cut(0, 0, 11) + " " + land.cut(0, 0, 10));
        is("-4 -4", () -> land.cut(0, 0, 1) + " " + land.cut(0, 8, 9999));

        says("-5 there would be more than 9999 SHEETS of a SIZE (buy, cut);");
        load("land 0 1;series a 9 9 size 0 9900 size 1 1 size 2 1;series b 9 9 size 0 4999 size 1 2");
        is("9999 -5", () -> land.buy(0, 0, 99) + " " + land.buy(0, 0, 1));
        is("-5 9999", () -> land.cut(0, 0, 5000) + " " + land.cut(0, 0, 4999));
        is("-5 9998", () -> land.cut(1, 0, 4999) + " " + land.cut(1, 0, 4998));
        land.setReam(500);
        is("-5 -5", () -> land.buy(0, 3, 20) + " " + land.buy(0, 3, 99));
        is(9500, () -> land.buy(0, 3, 19));

        says("-6 and -7 an ORDER is refused (for the reasons 1 and 2 of section 3).");
        is("-6 -7", () -> land.order(201, 1, 1) + " " + land.order(94, 135, 11));
        is("0 0 0 0 1 1", () -> Check.refusals(land));
        is("0 0", () -> play("order 201 1 1;") + " " + play("order 94 135 11;"));
        is("0 0 0 0 2 2", () -> Check.refusals(land));
    }

    private void scripts() {
        says("A script does its orders one after the other, each as the method for it does,");
        is(6, () -> play("ream 9;buy royal 0 1;cut royal 0 2;order 40 60 8;edge 0;order 100 141 17;"));
        String byScript = all().replaceFirst(" 1\\|", " n|");
        land = new PaperLand();
        land.setReam(9);
        is("19 4 2 3 0 0", () -> land.buy(0, 0, 1) + " " + land.cut(0, 0, 2) + " " + land.order(40, 60, 8) + " "
            + land.setEdge(0) + " " + land.order(100, 141, 17) + " " + land.count(3));
        is(byScript, () -> all().replaceFirst(" 6\\|", " n|"));

        land = new PaperLand();
        is(2, () -> play("buy long 3 1;cut long 0 3;"));
        is("1 6 0 50 0 0 0 0 0 0", () -> row(1, 3));
        is("10 0 3 0 0 0 0 0 0 0", () -> row(0, 3));

        says("until one is refused,");
        is("1 5", () -> play("edge 5;buy none 0 1;edge 6;") + " " + land.count(3));
        is("1 6", () -> play("edge 6;cut royal 9 1;edge 7;") + " " + land.count(3));
        is("1 7", () -> play("edge 7;cut royal 0 11;edge 8;") + " " + land.count(3));
        is("1 8", () -> play("edge 8;order 1 201 1;edge 9;") + " " + land.count(3));
        is("1 0", () -> play("edge 0;order 100 141 11;edge 9;") + " " + land.count(3));
        is("2 1", () -> play("ream 500;edge 1;buy royal 0 20;edge 2;") + " " + land.count(3));
        is("5 2", () -> play("again 2(edge 2;again 1(cut royal 0 9;edge 2;);edge 2;);edge 3;") + " " + land.count(3));
        is("1 1 2 1 1 1", () -> Check.refusals(land));

        says("or 40 were done (\"again\" not counted);");
        is("39", () -> play("again 19(edge 1;edge 2;);edge 3;"));
        is("40 4", () -> play("again 19(edge 1;edge 2;);edge 3;edge 4;") + " " + land.count(3));
        is("40 4", () -> play("again 19(edge 1;edge 2;);edge 3;edge 4;edge 5;") + " " + land.count(3));
        is("40 0", () -> play("again 20(edge 1;edge 2;);buy none 0 1;") + " " + land.refused(-2));
        is("40 2", () -> play("again 20(again 20(again 20(edge 1;edge 2;);););") + " " + land.count(3));
        is("0", () -> play("again 20(again 20(again 20();););"));
        is("2 7", () -> play("edge 6;again 20();again 1(again 20(););edge 7;") + " " + land.count(3));
        is("4 9", () -> play("again 2(again 20();edge 8;again 2(););again 2(edge 9;);") + " " + land.count(3));

        says("what was done ahead of that stays.");
        is(3, () -> play("ream 7;buy royal 0 1;again 3(cut royal 0 9;);edge 1;"));
        is("2 33 4 3 7 0 1", () -> Check.counts(land));
        is("8 18 3 0 0 0 0 0 0 0", () -> row(0, 3));
        is(1, () -> land.refused(-4));
    }

    private void exceptions() {
        says("Forecasts change nothing.");
        land.order(40, 60, 1);
        land.writeStacks();
        Check.Call[] forecasts = {() -> land.fitting(40, 60), () -> land.nearest(40, 60, 5), () -> land.nearest(300, 1, 1),
            () -> land.whyNot(40, 60, 999, 1), () -> land.whyNot(300, 60, 9, 1), () -> land.ifOrder(40, 60, 9, 0),
            () -> land.ifOrder(40, 60, 9, 3), () -> land.ifOrder(40, 60, 999, 3), () -> land.mostOf(40, 60),
            () -> land.cutsFor(0, 2, 9), () -> land.cutsFor(0, 2, 9999)};
        for (Check.Call forecast : forecasts) {
            leavesAll(forecast);
        }

        says("A call that throws an exception or is refused changes nothing else than the counts of refusals.");
        play("x");
        land.order(40, 60, 5);
        land.writeStacks();
        say("keep");
        Check.Call[] thrown = {() -> land.truncate(5), () -> land.buy(2, 0, 1), () -> land.buy(0, 0, 100),
            () -> land.cut(0, 10, 1), () -> land.cut(0, 0, 0), () -> land.order(0, 1, 1), () -> land.order(1, 1, 1000),
            () -> land.setEdge(51), () -> land.setReam(0), () -> land.found(0, 1), () -> land.writeSheet(0, 0, 6, false),
            () -> land.writeSheet(2, 0, 0, false), () -> land.save(2), () -> land.restore(2), () -> land.restore(0)};
        for (Check.Call call : thrown) {
            leavesAll(call);
        }
        land.buy(0, 0, 99);
        land.buy(0, 0, 99);
        String before = allButRefusals();
        is(-3, () -> land.cut(0, 9, 1));
        is(-4, () -> land.cut(0, 1, 99));
        is(-5, () -> land.buy(0, 0, 99));
        is(-6, () -> land.order(201, 1, 1));
        is(-7, () -> land.order(50, 190, 5));
        is(before, () -> allButRefusals());
        is("0 1 1 1 1 1", () -> Check.refusals(land));
        holds(4);

        says("If several exceptions apply, the one that is listed first is thrown.");
        is(INDEX, () -> land.size(2, 0, 10));
        is(INDEX, () -> land.size(0, 10, -1));
        is(INDEX, () -> land.grid(2, 0, 6, false));
        is(INDEX, () -> land.page(0, 10, 6, 99, 99, false));
        is(INDEX, () -> land.cellOf(0, -1, 6, 0));
        is(INDEX, () -> land.pageGap(-1, 0, -1));
        is(INDEX, () -> land.cutsFor(2, 0, -1));
        is(INDEX, () -> land.buy(2, 0, 0));
        is(INDEX, () -> land.cut(0, 10, 10000));
        is(INDEX, () -> land.writeSheet(0, 10, 6, true));
        is(INDEX, () -> land.restore(2));

        says("IndexOutOfBoundsException is thrown if there is no such SERIES, SIZE, CELL, PAGE or slot;");
        is(INDEX, () -> land.sizes(2));
        is(INDEX, () -> land.ratio(0, 10));
        is(INDEX, () -> land.page(0, 0, 1, 2, 0, false));
        is(INDEX, () -> land.cellOf(0, 0, 1, 5));
        is(INDEX, () -> land.cellOf(0, 0, 1, 0));
        is(INDEX, () -> land.save(2));
        is(INDEX, () -> land.restore(-1));

        says("IllegalArgumentException if another number is out of its range, and if a SHEET cannot be folded so often (this "
            + "ahead of a CELL or PAGE that there is not).");
        is(ARGUMENT, () -> land.count(7));
        is(ARGUMENT, () -> land.whyNot(1, 1, 1, 2));
        is(ARGUMENT, () -> land.ifOrder(1, 1, 1, 4));
        is(ARGUMENT, () -> land.page(0, 9, 1, 9, 9, false));
        is(ARGUMENT, () -> land.page(0, 0, 6, -1, 0, false));
        is(ARGUMENT, () -> land.cellOf(0, 9, 1, 0));
        is(ARGUMENT, () -> land.cellOf(0, 0, 6, 99));
        load("land 0 1;series a 1 1");
        is(ARGUMENT, () -> land.page(0, 1, 0, 5, 5, false));
        is(ARGUMENT, () -> land.cellOf(0, 1, 0, -5));
    }
}
