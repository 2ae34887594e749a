/** Each promise of the document by answers that are told by hand. */
public final class PromisesTest {
    private static final String INDEX = "throws.IndexOutOfBoundsException";
    private static final String ARGUMENT = "throws.IllegalArgumentException";
    private static final String STATE = "throws.IllegalStateException";

    private final Check check = new Check();
    private PaperLand land;

    public static void main(String[] args) {
        PromisesTest test = new PromisesTest();
        test.texts();
        test.setups();
        test.scripts();
        test.told();
        test.numbers();
        test.folds();
        test.forecasts();
        test.changes();
        test.writtenAndKept();
        test.check.end();
    }

    private void anew(String part) {
        check.begin(part);
        land = new PaperLand();
    }

    private void texts() {
        anew("promise 1");
        check.is("2 17 3 3 50 0 0", () -> Check.counts(land));
        check.is("royal0:10 royal2:3 long0:4", () -> Check.stacks(land));
        check.is("199500 0 0 0 0 0 0 0", () -> Check.accounts(land));
        check.is("0 0 0 0 0 0", () -> Check.refusals(land));
        check.is(100, () -> land.size(0, 0, 0));
        check.is(141, () -> land.size(0, 0, 1));
        check.is(60, () -> land.size(1, 0, 0));
        check.is(200, () -> land.size(1, 0, 1));
        check.is(0, () -> land.truncate(0));
        check.is(ARGUMENT, () -> land.truncate(1));
        check.is(-1, () -> new PaperLand().outputByte(0));
        check.is(STATE, () -> land.restore(0));
        check.is(STATE, () -> land.restore(1));
        check.is(-1, () -> land.undo());
        check.is(-1, () -> PaperLand.NONE);

        anew("promise 2");
        check.is(20, () -> land.append('z' << 24 | 'a' << 16 | 'b' << 8 | 'c', 0x64656667, 0, -1, 0x80FF0001));
        check.is(1, () -> land.truncate(1));
        check.is(2, () -> land.found(10, 10));
        check.is('z', () -> land.letter(2, 0));
        check.is(-1, () -> land.letter(2, 1));
        Check.say(land, "abcdef");
        check.is(26, () -> land.append('g' << 24, 0, 0, 0, 0));
        check.is(6, () -> land.truncate(6));
        check.is(3, () -> land.found(10, 10));
        check.is('f', () -> land.letter(3, 5));
        for (int k = 1; k <= 30; k++) {
            int due = 20 * k;
            check.is(due, () -> land.append(1, 2, 3, 4, 5));
        }
        check.is(STATE, () -> land.append(1, 2, 3, 4, 5));
        check.is(600, () -> land.truncate(600));
        check.is(581, () -> land.truncate(581));
        check.is(STATE, () -> land.append(1, 2, 3, 4, 5));
        check.is(580, () -> land.truncate(580));
        check.is(600, () -> land.append(1, 2, 3, 4, 5));
        // All twenty bytes, in their order: an error told behind each of them.
        check.is("-1 2 17", () -> {
            PaperLand x = new PaperLand();
            x.append(0x6C616E64, 0x20202020, 0x20202020, 0x20202020, 0x20393920);
            return x.load() + " " + x.errorCode() + " " + x.errorPosition();
        });

        anew("promise 3");
        Check.say(land, "abcdefgh");
        check.is(ARGUMENT, () -> land.truncate(9));
        check.is(ARGUMENT, () -> land.truncate(-1));
        check.is(8, () -> land.truncate(8));
        check.is(3, () -> land.truncate(3));
        check.is(ARGUMENT, () -> land.truncate(4));
        check.is(2, () -> land.found(1, 1));
        check.is('c', () -> land.letter(2, 2));
        check.is(-1, () -> land.letter(2, 3));
    }

    private void setups() {
        anew("promise 4");
        check.is(2, () -> Check.load(land, "land 0 500;series a 2000 1 size 0 9999 size 3 1;series size 3 3 size 2 0"));
        check.is("2 10000 2 0 500 0 0", () -> Check.counts(land));
        check.is("a0:9999 a3:1", () -> Check.stacks(land));
        check.is("19998250 0 0 0 0 0 0 0", () -> Check.accounts(land));
        check.is(0, () -> Check.load(land, "\n land 050 0001 "));
        check.is("0 0 0 50 1 0 0", () -> Check.counts(land));
        check.is(0, () -> land.account(0));
        check.is(1, () -> Check.load(land, "land0 1;series a1 1"));
        check.is(5, () -> Check.load(land,
            "land 0 1;series a 1 1;series b 1 1;series c 1 1;series d 1 1;series land 9 9 size 1 7"));
        check.is("land1:7", () -> Check.stacks(land));
        land = new PaperLand();
        land.order(40, 60, 5);
        land.order(300, 1, 1);
        land.save(0);
        land.writeStacks();
        Check.play(land, "buy none 0 1;");
        check.is(1, () -> Check.load(land, "land 1 2;series q 10 10 size 0 1"));
        check.is("royal0:9 royal1:1 long0:4", () -> Check.output(land));
        check.is("1 1 1 1 2 0 0", () -> Check.counts(land));
        check.is("100 0 0 0 0 0 0 0", () -> Check.accounts(land));
        check.is("0 0 0 0 0 0", () -> Check.refusals(land));
        check.is(0, () -> land.ordered(40, 60));
        check.is(STATE, () -> land.restore(0));
        check.is(-1, () -> land.undo());
        check.is(0, () -> land.truncate(0));
        land.setEdge(9);
        land.buy(0, 5, 99);
        land.save(1);
        check.is(-1, () -> Check.load(land, "land 1 2;series q 10 10 size 0 1;"));
        check.is(ARGUMENT, () -> land.truncate(1));
        check.is("1 199 2 9 2 0 2", () -> Check.counts(land));
        check.is("496 0 0 0 0 0 0 99", () -> Check.accounts(land));
        check.is(1, () -> land.undo());
        check.is(1, () -> land.restore(1));

        check.begin("promise 4, 6 and 7, errors of a setup");
        check.is("-1 1 0", () -> Check.loadError(""));
        check.is("-1 1 3", () -> Check.loadError(" \n "));
        check.is("-1 1 0", () -> Check.loadError("lands 1 1"));
        check.is("-1 1 0", () -> Check.loadError("lan 1 1"));
        check.is("-1 1 0", () -> Check.loadError("sand 1 1"));
        check.is("-1 1 0", () -> Check.loadError("3 land"));
        check.is("-1 1 4", () -> Check.loadError("land\t3 3"));
        check.is("-1 1 5", () -> Check.loadError("land -1 3"));
        check.is("-1 2 5", () -> Check.loadError("land 51 0"));
        check.is("-1 2 5", () -> Check.loadError("land 99999999999999999999999999999999 0"));
        check.is("-1 2 5", () -> Check.loadError("land 4294967299 9"));
        check.is("-1 2 7", () -> Check.loadError("land 3 0"));
        check.is("-1 2 7", () -> Check.loadError("land 3 501"));
        check.is("-1 1 10", () -> Check.loadError("land 3 50 series a 1 1"));
        check.is("-1 1 9", () -> Check.loadError("land 3 50)"));
        check.is("-1 1 10", () -> Check.loadError("land 3 50;;"));
        check.is("-1 1 10", () -> Check.loadError("land 3 50;size 0 1"));
        check.is("-1 1 17", () -> Check.loadError("land 3 50;series 7 1 1"));
        check.is("-1 2 17", () -> Check.loadError("land 3 50;series abcdefg 0 1"));
        check.is("2 0 -1", () -> Check.loadError("land 3 50;series abcdef 1 1;series a 2000 2000"));
        check.is("-1 3 30", () -> Check.loadError("land 3 50;series a 1 1;series a 0 1"));
        check.is("-1 2 19", () -> Check.loadError("land 3 50;series a 0 1"));
        check.is("-1 2 21", () -> Check.loadError("land 3 50;series a 1 0"));
        check.is("-1 2 19", () -> Check.loadError("land 3 50;series a 2001 1"));
        check.is("-1 2 21", () -> Check.loadError("land 3 50;series a 1 2001"));
        check.is("-1 1 19", () -> Check.loadError("land 3 50;series a b 1"));
        check.is("-1 1 23", () -> Check.loadError("land 3 50;series a 1 1 sizes 0 1"));
        check.is("-1 1 26", () -> Check.loadError("land 3 50;series a 1 1size;"));
        check.is("-1 2 28", () -> Check.loadError("land 3 50;series a 9 9 size 10 1"));
        check.is("-1 3 28", () -> Check.loadError("land 3 50;series a 3 3 size 3 1"));
        check.is("1 0 -1", () -> Check.loadError("land 3 50;series a 3 3 size 2 1"));
        check.is("-1 3 37", () -> Check.loadError("land 3 50;series a 3 3 size 2 0 size 2 99999"));
        check.is("1 0 -1", () -> Check.loadError("land 3 50;series a 3 3 size 2 0 size 0 9999 size 1 1"));
        check.is("-1 2 30", () -> Check.loadError("land 3 50;series a 3 3 size 2 10000"));
        check.is("-1 1 29", () -> Check.loadError("land 3 50;series a 3 3 size 2"));
        check.is("-1 1 31", () -> Check.loadError("land 3 50;series a 3 3 size 2  "));
        check.is("2 0 -1", () -> Check.loadError("land 3 50;series a 3 3 size 2 1;series b 3 3 size 2 1"));
        String five = "land 3 50;series a 1 1;series b 1 1;series c 1 1;series d 1 1;series e 1 1;";
        check.is("-1 4 75", () -> Check.loadError(five + "series"));
        check.is("-1 4 76", () -> Check.loadError(five + " series a 0 0"));
        check.is("-1 1 75", () -> Check.loadError(five + "serie"));
        check.is("-1 1 75", () -> Check.loadError(five));
        check.is("10 0 -1", () -> {
            PaperLand x = new PaperLand();
            Check.load(x, "land 3 50;series a 900 900 size 9 1 size 8 1 size 7 1 size 6 1 size 5 1 size 4 1 size 3 1"
                + " size 2 1 size 1 1 size 0 1");
            return x.count(2) + " " + x.errorCode() + " " + x.errorPosition();
        });
    }

    private void scripts() {
        anew("promise 5");
        check.is(5, () -> Check.play(land, "ream 7;buy long 0 2; cut long 0 3;order 60 30 2;edge 0;"));
        check.is("2 32 4 0 7 1 1", () -> Check.counts(land));
        check.is(0, () -> land.truncate(0));
        check.is(0, () -> land.undo());
        check.is("2 17 3 3 50 0 0", () -> Check.counts(land));
        check.is(0, () -> Check.play(land, ""));
        check.is(1, () -> land.count(6));
        check.is(0, () -> Check.play(land, "again 20(again 20(again 20(); again 7 ( ) ;););"));
        check.is(2, () -> land.count(6));
        check.is(0, () -> Check.play(land, "buy nowher 0 1;edge 1;"));
        check.is(3, () -> land.count(6));
        check.is("1 0 0 0 0 0", () -> Check.refusals(land));
        check.is(2, () -> Check.play(land, "edge 5;edge 4;order 2000 2000 1;edge 3;"));
        check.is(4, () -> land.count(3));
        check.is(1, () -> Check.play(land, "edge 3;order 90 60 999;"));
        check.is(1, () -> Check.play(land, "edge 3;cut royal 9 1;"));
        check.is(1, () -> Check.play(land, "edge 3;cut royal 0 9999;"));
        check.is(1, () -> Check.play(land, "edge 3;cut none 0 1;"));
        check.is("2 1 1 0 1 1", () -> Check.refusals(land));
        check.is(8, () -> land.count(6));
        check.is(-1, () -> Check.play(land, "edge 9;edge 8"));
        check.is(3, () -> land.count(3));
        check.is(8, () -> land.count(6));
        check.is(ARGUMENT, () -> land.truncate(1));

        anew("promise 5, 40 orders");
        check.is(40, () -> Check.play(land, "ream 1;again 20(buy royal 9 1;again 2(buy long 9 1;););"));
        check.is("royal0:10 royal2:3 royal9:13 long0:4 long9:26", () -> Check.stacks(land));
        check.is(40, () -> Check.play(land, "again 20(buy royal 9 1;buy long 9 1;);buy none 0 1;"));
        check.is(0, () -> land.refused(-2));
        check.is(39, () -> Check.play(land, "again 19(buy royal 9 1;buy long 9 1;);edge 1;buy none 0 1;"));
        check.is(1, () -> land.refused(-2));
        check.is(24, () -> Check.play(land, "again 3(cut royal 0 3;);edge 2;again 20(edge 4;);"));
        check.is(0, () -> land.refused(-4));
        check.is("2 1 4", () -> {
            PaperLand x = new PaperLand();
            int done = Check.play(x, "again 5(again 5(cut royal 0 6;edge 1;);edge 2;);");
            return done + " " + x.refused(-4) + " " + x.size(0, 0, 3);
        });

        check.begin("promise 5, 6 and 7, errors of a script");
        check.is("0 0 -1", () -> Check.playError(" \n"));
        check.is("1 0 -1", () -> Check.playError("edge50;"));
        check.is("0 0 -1", () -> Check.playError("buy buy 9 99;"));
        check.is("2 0 -1", () -> Check.playError("edge 2;again 20();edge 1;"));
        check.is("-1 1 0", () -> Check.playError(";"));
        check.is("-1 1 0", () -> Check.playError(")"));
        check.is("-1 1 0", () -> Check.playError("land 3 50;"));
        check.is("-1 1 0", () -> Check.playError("Edge 3;"));
        check.is("-1 1 0", () -> Check.playError("guy a 0 1;"));
        check.is("-1 1 0", () -> Check.playError("buz a 0 1;"));
        check.is("-1 1 7", () -> Check.playError("edge 3 edge 3;"));
        check.is("-1 1 6", () -> Check.playError("edge 3"));
        check.is("-1 1 8", () -> Check.playError("edge 3 \n"));
        check.is("-1 1 7", () -> Check.playError("edge 3;\u00e9"));
        check.is("-1 2 5", () -> Check.playError("edge 51"));
        check.is("-1 2 5", () -> Check.playError("ream 0"));
        check.is("-1 2 5", () -> Check.playError("ream 501"));
        check.is("1 0 -1", () -> Check.playError("ream 500;"));
        check.is("-1 2 4", () -> Check.playError("buy abcdefg 10"));
        check.is("-1 1 4", () -> Check.playError("buy 3 10"));
        check.is("-1 2 6", () -> Check.playError("buy a 10"));
        check.is("-1 2 8", () -> Check.playError("buy a 9 0;"));
        check.is("-1 2 8", () -> Check.playError("buy a 9 100;"));
        check.is("-1 2 8", () -> Check.playError("cut a 9 10000;"));
        check.is("-1 2 8", () -> Check.playError("cut a 9 0;"));
        check.is("0 0 -1", () -> Check.playError("cut a 9 9999;"));
        check.is("-1 2 6", () -> Check.playError("order 0 1 1;"));
        check.is("-1 2 8", () -> Check.playError("order 1 2001 1;"));
        check.is("-1 2 10", () -> Check.playError("order 1 1 1000;"));
        check.is("-1 2 6", () -> Check.playError("order 2001 1 1;"));
        check.is("-1 2 8", () -> Check.playError("order 1 0 1;"));
        check.is("-1 2 10", () -> Check.playError("order 1 1 0;"));
        check.is("0 0 -1", () -> Check.playError("order 2000 2000 999;"));
        check.is("-1 2 6", () -> Check.playError("again 0("));
        check.is("-1 2 6", () -> Check.playError("again 21("));
        check.is("-1 1 8", () -> Check.playError("again 2 edge 1;"));
        check.is("-1 1 8", () -> Check.playError("again 2(;);"));
        check.is("-1 1 15", () -> Check.playError("again 2(edge 1;"));
        check.is("-1 1 14", () -> Check.playError("again 2(edge 1);"));
        check.is("-1 1 17", () -> Check.playError("again 2 (edge 1;)"));
        check.is("-1 1 17", () -> Check.playError("again 2 (edge 1;)edge"));
        check.is("-1 4 27", () -> Check.playError("again 1(again 1(again 1(   again"));
        check.is("-1 1 24", () -> Check.playError("again 1(again 1(again 1(agains"));
        check.is("4 0 -1", () -> Check.playError("again 2(again 2(again 1(edge 1;););); "));
        check.is("2 0 -1", () -> Check.playError("again 1(again 1(edge 1;);again 1(again 1(edge 1;);););"));
        check.is("30 0 -1", () -> Check.playError("edge 1;".repeat(30)));
        check.is("-1 4 210", () -> Check.playError("edge 1;".repeat(31)));
        check.is("-1 1 210", () -> Check.playError("edge 1;".repeat(30) + "edges"));
        check.is("-1 1 210", () -> Check.playError("edge 1;".repeat(30) + ";"));
        check.is("-1 4 210", () -> Check.playError("edge 1;".repeat(30) + "again"));
        check.is("-1 4 212", () -> Check.playError("again 1(" + "edge 1;".repeat(29) + " edge 1;);"));
        check.is("29 0 -1", () -> Check.playError("again 1(" + "edge 1;".repeat(29) + ");"));

        anew("promise 6 and 7");
        check.is(0, () -> land.errorCode());
        check.is(-1, () -> land.errorPosition());
        Check.load(land, "land 3 x");
        check.is(1, () -> land.errorCode());
        check.is(7, () -> land.errorPosition());
        land.setEdge(4);
        land.undo();
        Check.say(land, "new");
        land.found(3, 3);
        check.is(1, () -> land.errorCode());
        check.is(7, () -> land.errorPosition());
        Check.play(land, "edge 99;");
        check.is(2, () -> land.errorCode());
        check.is(5, () -> land.errorPosition());
        Check.play(land, "buy none 0 1;");
        check.is(0, () -> land.errorCode());
        check.is(-1, () -> land.errorPosition());
        Check.play(land, "x");
        Check.load(land, "land 1 1");
        check.is(0, () -> land.errorCode());
        check.is(-1, () -> land.errorPosition());
    }

    private void told() {
        anew("promise 8");
        land.order(40, 60, 5);
        land.order(60, 40, 1);
        land.order(40, 60, 1);
        land.setReam(7);
        land.setEdge(4);
        check.is("2 13 2 4 7 2 5", () -> Check.counts(land));
        check.is(ARGUMENT, () -> land.count(-1));
        check.is(ARGUMENT, () -> land.count(7));
        check.is(10, () -> {
            PaperLand x = Check.landOf("land 0 1;series a 900 900 size 0 9999");
            for (int n = 1; n < 10; n++) {
                x.buy(0, n, 99);
            }
            return x.count(2);
        });

        anew("promise 9");
        check.is('r', () -> land.letter(0, 0));
        check.is('l', () -> land.letter(0, 4));
        check.is(-1, () -> land.letter(0, 5));
        check.is(-1, () -> land.letter(0, -1));
        check.is(-1, () -> land.letter(0, Integer.MAX_VALUE));
        check.is('g', () -> land.letter(1, 3));
        check.is(-1, () -> land.letter(1, 4));
        check.is(INDEX, () -> land.letter(2, 0));
        check.is(INDEX, () -> land.letter(-1, 0));

        anew("promise 10");
        int[][] royal = {{100, 141}, {100, 70}, {50, 70}, {50, 35}, {25, 35}, {25, 17}, {12, 17}, {12, 8}, {6, 8}, {6, 4}};
        for (int n = 0; n < 10; n++) {
            int size = n;
            check.is(royal[n][0], () -> land.size(0, size, 0));
            check.is(royal[n][1], () -> land.size(0, size, 1));
            check.is(royal[n][0] * royal[n][1], () -> land.size(0, size, 2));
            check.is(0, () -> land.size(0, size, 9));
        }
        check.is(10, () -> land.size(0, 0, 3));
        check.is(0, () -> land.size(0, 0, 4));
        land.setReam(5);
        check.is(2, () -> land.size(0, 0, 4));
        land.setReam(4);
        check.is(2, () -> land.size(0, 0, 4));
        check.is(100, () -> land.size(0, 0, 5));
        check.is(0, () -> land.size(0, 1, 5));
        check.is(-1, () -> land.size(0, 9, 5));
        check.is(94, () -> land.size(0, 0, 6));
        check.is(135, () -> land.size(0, 0, 7));
        check.is(0, () -> land.size(0, 9, 6));
        check.is(0, () -> land.size(0, 9, 7));
        check.is(10, () -> land.size(0, 0, 8));
        check.is(20, () -> land.size(0, 1, 8));
        check.is(43, () -> land.size(0, 2, 8));
        check.is(5504, () -> land.size(0, 9, 8));
        check.is(INDEX, () -> land.size(2, 0, 0));
        check.is(INDEX, () -> land.size(-1, 0, 0));
        check.is(INDEX, () -> land.size(0, 10, 99));
        check.is(INDEX, () -> land.size(0, -1, 0));
        check.is(ARGUMENT, () -> land.size(0, 0, 10));
        check.is(ARGUMENT, () -> land.size(0, 0, -1));
        check.is("5 9 0 0", () -> {
            PaperLand x = Check.landOf("land 3 1;series a 5 19");
            return x.size(0, 1, 0) + " " + x.size(0, 1, 1) + " " + x.size(0, 1, 6) + " " + x.size(0, 2, 6);
        });
        check.is("9999 9999", () -> {
            PaperLand x = Check.landOf("land 3 1;series a 900 900 size 0 5000");
            return x.size(0, 1, 8) + " " + x.size(0, 9, 8);
        });
        check.is("9998 9999", () -> {
            PaperLand x = Check.landOf("land 3 1;series a 900 900 size 0 4999;series b 900 900 size 0 4999 size 1 3");
            return x.size(0, 1, 8) + " " + x.size(1, 1, 8);
        });
        check.is("0 0 0 0 0 -1 0 0 0 1", () -> {
            PaperLand x = Check.landOf("land 0 1;series a 1 1 size 0 9");
            StringBuilder text = new StringBuilder();
            for (int what = 0; what < 10; what++) {
                text.append(what == 0 ? "" : " ").append(x.size(0, 1, what));
            }
            return text;
        });
        check.is("1 2 1 1 0", () -> {
            PaperLand x = Check.landOf("land 0 1;series a 3 2 size 0 9");
            return x.size(0, 1, 0) + " " + x.size(0, 1, 1) + " " + x.size(0, 2, 0) + " " + x.size(0, 2, 1) + " "
                + x.size(0, 3, 1);
        });
        check.is("8 4 4 4", () -> {
            PaperLand x = Check.landOf("land 0 1;series a 8 8");
            return x.size(0, 1, 0) + " " + x.size(0, 1, 1) + " " + x.size(0, 2, 0) + " " + x.size(0, 2, 1);
        });

        anew("promise 11");
        check.is(10, () -> land.sizes(0));
        check.is(INDEX, () -> land.sizes(2));
        check.is(INDEX, () -> land.sizes(-1));
        check.is("1 2 3 5 9", () -> {
            PaperLand x = Check.landOf("land 0 1;series a 1 1;series b 1 2;series c 4 1;series d 4 4;series e 31 31");
            return x.sizes(0) + " " + x.sizes(1) + " " + x.sizes(2) + " " + x.sizes(3) + " " + x.sizes(4);
        });

        anew("promise 12");
        check.is(false, () -> land.isAlike(0, 0, 0, 2));
        check.is(true, () -> land.isAlike(0, 1, 0, 3));
        check.is(true, () -> land.isAlike(0, 0, 0, 0));
        check.is("true true false false", () -> {
            PaperLand x = Check.landOf("land 0 1;series a 2000 1000;series b 1 2;series c 1 1");
            return x.isAlike(0, 0, 1, 0) + " " + x.isAlike(0, 2, 1, 0) + " " + x.isAlike(0, 0, 1, 1) + " "
                + x.isAlike(2, 1, 2, 1);
        });
        check.is(false, () -> Check.landOf("land 0 1;series c 1 1").isAlike(0, 0, 0, 1));
        check.is(false, () -> Check.landOf("land 0 1;series c 1 1").isAlike(0, 1, 0, 0));
        check.is(INDEX, () -> land.isAlike(2, 0, 0, 0));
        check.is(INDEX, () -> land.isAlike(0, 10, 0, 0));
        check.is(INDEX, () -> land.isAlike(0, 0, 2, 0));
        check.is(INDEX, () -> land.isAlike(0, 0, 0, -1));

        anew("promise 13");
        check.is(1.41, () -> land.ratio(0, 0));
        check.is(100.0 / 70.0, () -> land.ratio(0, 1));
        check.is(200.0 / 60.0, () -> land.ratio(1, 0));
        check.is(1.0, () -> Check.landOf("land 0 1;series c 1 1").ratio(0, 0));
        check.is(0.0, () -> Check.landOf("land 0 1;series c 1 1").ratio(0, 1));
        check.is(2000.0, () -> Check.landOf("land 0 1;series c 2000 1").ratio(0, 0));
        check.is(INDEX, () -> land.ratio(0, 10));
        check.is(INDEX, () -> land.ratio(2, 0));
        check.is(INDEX, () -> land.ratio(0, -1));
    }

    private void numbers() {
        anew("promise 14");
        check.is(0, () -> land.ordered(40, 60));
        land.order(40, 60, 2);
        land.order(40, 60, 3);
        land.order(60, 40, 1);
        Check.play(land, "order 40 60 4;");
        land.order(40, 60, 999);
        check.is(9, () -> land.ordered(40, 60));
        check.is(1, () -> land.ordered(60, 40));
        check.is(0, () -> land.ordered(40, 40));
        check.is(ARGUMENT, () -> land.ordered(0, 60));
        check.is(ARGUMENT, () -> land.ordered(40, 0));
        check.is(ARGUMENT, () -> land.ordered(2001, 60));
        check.is(ARGUMENT, () -> land.ordered(40, 2001));
        check.is(0, () -> land.ordered(2000, 2000));

        anew("promise 15");
        check.is(-1, () -> land.print(0, 0));
        Check.load(land, "land 0 1;series a 900 900 size 0 99");
        for (int w = 1; w <= 31; w++) {
            land.order(800, 700 + w, w == 31 ? 7 : 1);
        }
        land.order(800, 731, 1);
        land.order(800, 730, 1);
        land.order(800, 701, 5);
        check.is(30, () -> land.count(5));
        check.is("800 701 6", () -> land.print(0, 0) + " " + land.print(0, 1) + " " + land.print(0, 2));
        check.is("800 730 2", () -> land.print(29, 0) + " " + land.print(29, 1) + " " + land.print(29, 2));
        check.is(-1, () -> land.print(30, 2));
        check.is(-1, () -> land.print(-1, 0));
        check.is(0, () -> land.ordered(800, 731));
        check.is(ARGUMENT, () -> land.print(0, 3));
        check.is(ARGUMENT, () -> land.print(-1, -1));
        check.is(44, () -> land.account(6));

        anew("promise 16");
        land.order(40, 60, 5);
        check.is("199500 12000 5500 100 2 1 5 0", () -> Check.accounts(land));
        land.cut(0, 0, 2);
        check.is("199500 12000 5500 300 4 1 5 0", () -> Check.accounts(land));
        land.buy(0, 4, 2);
        check.is("287000 12000 5500 300 4 1 5 2", () -> Check.accounts(land));
        land.save(0);
        land.order(40, 60, 999);
        land.cut(0, 9, 1);
        check.is("287000 12000 5500 300 4 1 5 2", () -> Check.accounts(land));
        land.undo();
        land.undo();
        check.is("199500 12000 5500 100 2 1 5 0", () -> Check.accounts(land));
        land.undo();
        check.is("199500 0 0 0 0 0 0 0", () -> Check.accounts(land));
        land.restore(0);
        check.is("287000 12000 5500 300 4 1 5 2", () -> Check.accounts(land));
        check.is(ARGUMENT, () -> land.account(-1));
        check.is(ARGUMENT, () -> land.account(8));
        land = Check.landOf("land 0 500;series a 2000 2000 size 0 536");
        check.is(2144000000, () -> land.account(0));
        land.setReam(1);
        land.buy(0, 0, 1);
        check.is(2147483647, () -> land.account(0));
        land.undo();
        check.is(2144000000, () -> land.account(0));
        land.order(2000, 2000, 536);
        check.is(2144000000, () -> land.account(1));
        land.buy(0, 0, 5);
        land.order(2000, 2000, 1);
        check.is(2147483647, () -> land.account(1));
        land = Check.landOf("land 0 500;series a 2000 2000 size 0 717");
        land.order(1001, 1001, 716);
        check.is(2146567284, () -> land.account(2));
        land.order(1001, 1001, 1);
        check.is(2147483647, () -> land.account(2));
        check.is(0, () -> land.gap());

        anew("promise 17");
        Check.play(land, "buy none 0 1;");
        Check.play(land, "cut none 0 1;");
        land.cut(0, 9, 1);
        land.cut(0, 0, 11);
        land.setReam(500);
        land.buy(0, 0, 20);
        land.buy(0, 0, 20);
        land.buy(0, 0, 20);
        land.order(300, 1, 1);
        land.order(1, 300, 1);
        land.order(1, 300, 999);
        land.order(300, 300, 999);
        land.order(90, 90, 999);
        check.is("2 1 1 3 4 1", () -> Check.refusals(land));
        land.save(0);
        land.undo();
        land.cut(0, 9, 1);
        land.restore(0);
        check.is("2 2 1 3 4 1", () -> Check.refusals(land));
        check.is(ARGUMENT, () -> land.refused(-1));
        check.is(ARGUMENT, () -> land.refused(-8));
        check.is(ARGUMENT, () -> land.refused(0));
        check.is(ARGUMENT, () -> land.refused(Integer.MIN_VALUE));
        check.is(ARGUMENT, () -> land.refused(Integer.MAX_VALUE));

        anew("promise 18");
        check.is(0, () -> land.gap());
        land.buy(0, 0, 3);
        land.cut(0, 0, 7);
        land.order(10, 10, 77);
        land.order(90, 60, 9);
        check.is(0, () -> land.gap());
        land.undo();
        check.is(0, () -> land.gap());

        anew("promise 19");
        check.is(0, () -> land.lostBits());
        land.order(40, 60, 5);
        check.is(Float.floatToIntBits(5600f / 199500f), () -> land.lostBits());
        land = Check.landOf("land 0 1;series a 1 2 size 0 4");
        land.order(1, 1, 4);
        check.is(0x00000000, () -> land.lostBits());
        land = Check.landOf("land 0 1;series a 1 3 size 0 1");
        land.order(2, 1, 1);
        check.is(Float.floatToIntBits(1f / 3f), () -> land.lostBits());
        check.is(0, () -> Check.landOf("land 0 1;series a 1 3").lostBits());
        land = Check.landOf("land 0 500;series a 2000 2000 size 0 9999");
        land.order(1001, 1001, 999);
        check.is(Float.floatToIntBits((float) (2997999L * 999) / (float) (4000000L * 9999)), () -> land.lostBits());
        land = Check.landOf("land 0 500;series a 2000 2000 size 0 9999 size 1 9999;series b 1 3 size 0 1");
        land.cut(1, 0, 1);
        check.is(Float.floatToIntBits(1f / (float) (6000000L * 9999 + 3)), () -> land.lostBits());
        land = Check.landOf("land 0 500;series a 2000 2000 size 0 1");
        land.order(1001, 1001, 1);
        check.is(Float.floatToIntBits(2997999f / 4000000f), () -> land.lostBits());
    }

    private void folds() {
        anew("promise 20");
        check.is("5 5 3 0", () -> land.mostFolds(0, 0) + " " + land.mostFolds(0, 4) + " " + land.mostFolds(0, 6) + " "
            + land.mostFolds(0, 9));
        check.is("2 0 -1 -1", () -> {
            PaperLand x = Check.landOf("land 0 1;series a 3 2");
            return x.mostFolds(0, 0) + " " + x.mostFolds(0, 2) + " " + x.mostFolds(0, 3) + " " + x.mostFolds(0, 9);
        });
        check.is(INDEX, () -> land.mostFolds(2, 0));
        check.is(INDEX, () -> land.mostFolds(0, 10));
        check.is(INDEX, () -> land.mostFolds(0, -1));

        anew("promise 21");
        int[][] grids = {{1, 1}, {2, 1}, {2, 2}, {4, 2}, {4, 4}, {8, 4}};
        for (int folds = 0; folds <= 5; folds++) {
            int times = folds;
            check.is(grids[folds][0], () -> land.grid(0, 0, times, false));
            check.is(grids[folds][1], () -> land.grid(0, 0, times, true));
        }
        check.is("4 1", () -> land.grid(1, 0, 2, false) + " " + land.grid(1, 0, 2, true));
        check.is("1 2", () -> {
            PaperLand x = Check.landOf("land 0 1;series a 9 8");
            return x.grid(0, 0, 1, false) + " " + x.grid(0, 0, 1, true);
        });
        check.is("2 1", () -> {
            PaperLand x = Check.landOf("land 0 1;series a 8 8");
            return x.grid(0, 0, 1, false) + " " + x.grid(0, 0, 1, true);
        });
        check.is(ARGUMENT, () -> land.grid(0, 0, 6, false));
        check.is(ARGUMENT, () -> land.grid(0, 0, -1, false));
        check.is(ARGUMENT, () -> land.grid(0, 6, 4, false));
        check.is("4 2", () -> land.grid(0, 6, 3, false) + " " + land.grid(0, 6, 3, true));
        check.is(INDEX, () -> land.grid(0, 10, 9, false));
        check.is(INDEX, () -> land.grid(2, 0, 9, false));
        check.is(ARGUMENT, () -> Check.landOf("land 0 1;series a 1 1").grid(0, 1, 0, true));

        anew("promise 22");
        check.is("1 2", () -> land.page(0, 0, 0, 0, 0, false) + " " + land.page(0, 0, 0, 0, 0, true));
        check.is("3 4", () -> land.page(0, 0, 1, 0, 0, false) + " " + land.page(0, 0, 1, 0, 0, true));
        check.is("2 1", () -> land.page(0, 0, 1, 1, 0, false) + " " + land.page(0, 0, 1, 1, 0, true));
        check.is("7 2 6 3", () -> land.page(0, 0, 2, 0, 0, false) + " " + land.page(0, 0, 2, 0, 1, false) + " "
            + land.page(0, 0, 2, 1, 0, false) + " " + land.page(0, 0, 2, 1, 1, false));
        check.is("8 1 5 4", () -> land.page(0, 0, 2, 0, 0, true) + " " + land.page(0, 0, 2, 0, 1, true) + " "
            + land.page(0, 0, 2, 1, 0, true) + " " + land.page(0, 0, 2, 1, 1, true));
        check.is(INDEX, () -> land.page(0, 0, 2, 2, 0, false));
        check.is(INDEX, () -> land.page(0, 0, 2, 0, 2, false));
        check.is(INDEX, () -> land.page(0, 0, 2, -1, 0, false));
        check.is(INDEX, () -> land.page(0, 0, 2, 0, -1, false));
        check.is(INDEX, () -> land.page(0, 0, 2, Integer.MAX_VALUE, Integer.MIN_VALUE, false));
        check.is(ARGUMENT, () -> land.page(0, 0, 6, 99, 0, false));
        check.is(ARGUMENT, () -> land.page(0, 9, 1, 99, 0, false));
        check.is(INDEX, () -> land.page(2, 0, 6, 0, 0, false));
        check.is(INDEX, () -> land.page(0, 10, 6, 0, 0, false));

        anew("promise 23");
        for (int page = 1; page <= 8; page++) {
            int wanted = page;
            int[] due = {3, 2, 202, 203, 201, 200, 0, 1};
            check.is(due[page - 1], () -> land.cellOf(0, 0, 2, wanted));
        }
        check.is("0 1", () -> land.cellOf(0, 0, 0, 1) + " " + land.cellOf(0, 0, 0, 2));
        check.is(INDEX, () -> land.cellOf(0, 0, 2, 9));
        check.is(INDEX, () -> land.cellOf(0, 0, 2, 0));
        check.is(INDEX, () -> land.cellOf(0, 0, 5, 65));
        check.is(INDEX, () -> land.cellOf(0, 0, 0, -1));
        check.is(ARGUMENT, () -> land.cellOf(0, 0, 6, 0));
        check.is(ARGUMENT, () -> land.cellOf(0, 0, -1, 1));
        check.is(INDEX, () -> land.cellOf(-1, 0, 0, 1));
        for (int page = 1; page <= 64; page++) {
            int wanted = page;
            check.is(page, () -> {
                int cell = land.cellOf(0, 0, 5, wanted);
                return land.page(0, 0, 5, cell / 200, cell % 200 / 2, cell % 2 == 1);
            });
        }

        anew("promise 24");
        for (int n = 0; n < 10; n++) {
            for (int folds = 0; folds <= land.mostFolds(1, n); folds++) {
                int size = n;
                int times = folds;
                check.is(0, () -> land.pageGap(0, size, times));
                check.is(0, () -> land.pageGap(1, size, times));
            }
        }
        check.is(ARGUMENT, () -> land.pageGap(0, 0, 6));
        check.is(ARGUMENT, () -> land.pageGap(0, 9, 1));
        check.is(INDEX, () -> land.pageGap(0, 10, 0));
    }

    private void forecasts() {
        anew("promise 25");
        check.is(5, () -> land.fitting(40, 60));
        check.is(5, () -> land.fitting(60, 40));
        check.is(1, () -> land.fitting(94, 135));
        check.is(1, () -> land.fitting(135, 94));
        check.is(0, () -> land.fitting(95, 135));
        check.is(0, () -> land.fitting(94, 136));
        check.is(0, () -> land.fitting(2000, 2000));
        land.setEdge(50);
        check.is(0, () -> land.fitting(1, 1));
        land.setEdge(0);
        check.is(20, () -> land.fitting(1, 1));
        check.is(3, () -> Check.landOf("land 0 1;series a 3 2").fitting(1, 1));
        for (int[] bad : new int[][] {{0, 1}, {1, 0}, {2001, 1}, {1, 2001}, {-1, -1}}) {
            check.is(ARGUMENT, () -> land.fitting(bad[0], bad[1]));
        }

        anew("promise 26");
        check.is(2, () -> land.nearest(40, 60, 43));
        check.is(-1, () -> land.nearest(40, 60, 44));
        check.is(-1, () -> land.nearest(300, 1, 1));
        check.is(1, () -> land.nearest(60, 80, 20));
        check.is(100, () -> land.nearest(50, 150, 4));
        check.is(-1, () -> land.nearest(50, 150, 5));
        for (int[] bad : new int[][] {{0, 1, 1}, {1, 0, 1}, {2001, 1, 1}, {1, 2001, 1}, {1, 1, 0}, {1, 1, 1000}}) {
            check.is(ARGUMENT, () -> land.nearest(bad[0], bad[1], bad[2]));
            check.is(ARGUMENT, () -> land.whyNot(bad[0], bad[1], bad[2], 0));
            check.is(ARGUMENT, () -> land.ifOrder(bad[0], bad[1], bad[2], 0));
            check.is(ARGUMENT, () -> land.order(bad[0], bad[1], bad[2]));
        }
        // Equal LEFT areas: the lowest series; and a size with too small a SUPPLY is passed over.
        check.is("100 0 200", () -> {
            PaperLand x = Check.landOf("land 0 1;series a 20 10 size 0 3;series b 10 20 size 0 9;series c 20 20 size 0 9");
            return x.nearest(10, 20, 4) + " " + x.nearest(20, 10, 3) + " " + x.nearest(20, 11, 1);
        });
        check.is("100 1", () -> {
            PaperLand x = Check.landOf("land 0 1;series a 40 10 size 0 3;series b 10 20 size 0 9");
            return x.nearest(10, 20, 7) + " " + x.nearest(10, 20, 6);
        });

        anew("promise 27");
        check.is("0 -1", () -> land.whyNot(40, 60, 43, 0) + " " + land.whyNot(40, 60, 43, 1));
        check.is("2 43", () -> land.whyNot(40, 60, 44, 0) + " " + land.whyNot(40, 60, 44, 1));
        check.is("1 -1", () -> land.whyNot(300, 10, 1, 0) + " " + land.whyNot(300, 10, 1, 1));
        check.is("1 0", () -> land.whyNot(100, 100, 999, 0) + " " + land.whyNot(100, 100, 999, 1));
        check.is("1 2", () -> land.whyNot(137, 96, 1, 0) + " " + land.whyNot(137, 96, 1, 1));
        check.is("1 2", () -> land.whyNot(95, 135, 1, 0) + " " + land.whyNot(95, 135, 1, 1));
        // A depth of neither 0 nor 1 is out of its range, whether the order would be refused or not.
        for (int depth : new int[] {2, -1, 3, Integer.MAX_VALUE, Integer.MIN_VALUE}) {
            check.is(ARGUMENT, () -> land.whyNot(40, 60, 43, depth));
            check.is(ARGUMENT, () -> land.whyNot(40, 60, 44, depth));
            check.is(ARGUMENT, () -> land.whyNot(300, 10, 1, depth));
        }
        land.setEdge(50);
        check.is("1 49", () -> land.whyNot(1, 43, 1, 0) + " " + land.whyNot(1, 43, 1, 1));
        check.is("2 2 9", () -> {
            PaperLand x = Check.landOf("land 0 1;series a 20 20 size 0 3;series b 20 20 size 0 1 size 1 7;series c 20 9");
            return x.whyNot(10, 20, 10, 0) + " " + x.whyNot(20, 20, 4, 0) + " " + x.whyNot(20, 10, 10, 1);
        });
        check.is("1 1 1 1 2", () -> {
            PaperLand x = Check.landOf("land 3 1;series a 100 141");
            return x.whyNot(10, 139, 1, 0) + " " + x.whyNot(10, 139, 1, 1) + " " + x.whyNot(139, 10, 1, 1) + " "
                + x.whyNot(98, 100, 1, 1) + " " + x.whyNot(96, 137, 1, 1);
        });

        anew("promise 28");
        check.is("2 100 5500 0", () -> land.ifOrder(40, 60, 5, 0) + " " + land.ifOrder(40, 60, 5, 1) + " "
            + land.ifOrder(40, 60, 5, 2) + " " + land.ifOrder(40, 60, 5, 3));
        check.is("0 0 2200 1", () -> land.ifOrder(40, 60, 2, 0) + " " + land.ifOrder(40, 60, 2, 1) + " "
            + land.ifOrder(40, 60, 2, 2) + " " + land.ifOrder(40, 60, 2, 3));
        check.is("2 100 4400 1", () -> land.ifOrder(40, 60, 4, 0) + " " + land.ifOrder(40, 60, 4, 1) + " "
            + land.ifOrder(40, 60, 4, 2) + " " + land.ifOrder(40, 60, 4, 3));
        check.is(-1, () -> land.ifOrder(40, 60, 44, 0));
        check.is(-1, () -> land.ifOrder(400, 60, 1, 3));
        check.is(ARGUMENT, () -> land.ifOrder(40, 60, 44, 4));
        check.is(ARGUMENT, () -> land.ifOrder(40, 60, 1, -1));
        check.is("2 17 3 3 50 0 0", () -> Check.counts(land));
        check.is("0 0 0 0 0 0", () -> Check.refusals(land));
        check.is("2147483647 2146567284", () -> {
            PaperLand x = Check.landOf("land 0 500;series a 2000 2000 size 0 999");
            return x.ifOrder(1001, 1001, 717, 2) + " " + x.ifOrder(1001, 1001, 716, 2);
        });

        anew("promise 29");
        check.is(43, () -> land.mostOf(40, 60));
        check.is(0, () -> land.mostOf(300, 1));
        check.is(999, () -> land.mostOf(1, 1));
        check.is("3 0", () -> {
            PaperLand x = Check.landOf("land 0 1;series a 20 20 size 0 3;series b 30 30");
            return x.mostOf(20, 20) + " " + x.mostOf(21, 20);
        });
        check.is(ARGUMENT, () -> land.mostOf(0, 1));
        check.is(ARGUMENT, () -> land.mostOf(1, 2001));

        anew("promise 30");
        check.is("0 0 2 6 8 30 -1", () -> land.cutsFor(0, 2, 0) + " " + land.cutsFor(0, 2, 3) + " "
            + land.cutsFor(0, 2, 4) + " " + land.cutsFor(0, 2, 11) + " " + land.cutsFor(0, 2, 12) + " "
            + land.cutsFor(0, 2, 43) + " " + land.cutsFor(0, 2, 44));
        check.is("0 -1 0 -1", () -> {
            PaperLand x = Check.landOf("land 0 1;series a 1 1 size 0 5");
            return x.cutsFor(0, 1, 0) + " " + x.cutsFor(0, 1, 1) + " " + x.cutsFor(0, 0, 5) + " " + x.cutsFor(0, 0, 6);
        });
        check.is("5000 -1", () -> {
            PaperLand x = Check.landOf("land 0 1;series a 2000 2000 size 1 5000;series b 2000 2000 size 1 4999");
            return x.cutsFor(0, 2, 9999) + " " + x.cutsFor(1, 2, 9999);
        });
        check.is(INDEX, () -> land.cutsFor(2, 0, -1));
        check.is(INDEX, () -> land.cutsFor(0, 10, 0));
        check.is(ARGUMENT, () -> land.cutsFor(0, 0, -1));
        check.is(ARGUMENT, () -> land.cutsFor(0, 0, 10000));
        check.is(-1, () -> land.cutsFor(0, 9, 9999));
    }

    private void changes() {
        anew("promise 31");
        check.is(-1, () -> land.found(3, 1));
        for (String bad : new String[] {"royal", "long", "abcdefg", "a b", "a ", " a", "A", "a1", "a;", "a\n"}) {
            Check.say(land, bad);
            check.is(-1, () -> land.found(3, 1));
            check.is(bad.length(), () -> land.truncate(bad.length()));
        }
        check.is("2 17 3 3 50 0 0", () -> Check.counts(land));
        check.is("0 0 0 0 0 0", () -> Check.refusals(land));
        Check.say(land, "abcdef");
        check.is(ARGUMENT, () -> land.found(0, 1));
        check.is(ARGUMENT, () -> land.found(1, 2001));
        check.is(2, () -> land.found(3, 1));
        check.is("0 3 1 2 0", () -> land.truncate(0) + " " + land.size(2, 0, 0) + " " + land.size(2, 0, 1) + " "
            + land.sizes(2) + " " + land.size(2, 0, 3));
        check.is(1, () -> land.count(6));
        Check.say(land, "q");
        check.is(3, () -> land.found(2000, 2000));
        Check.say(land, "long");
        check.is(-1, () -> land.found(2000, 2000));
        land.truncate(2);
        check.is(4, () -> land.found(1, 1));
        check.is("l o -1", () -> (char) land.letter(4, 0) + " " + (char) land.letter(4, 1) + " " + land.letter(4, 2));
        Check.say(land, "sixth");
        check.is(-1, () -> land.found(1, 1));
        check.is(5, () -> land.truncate(5));
        check.is(2, () -> land.undo());
        check.is(4, () -> land.count(0));
        check.is(5, () -> land.truncate(5));
        check.is(4, () -> land.found(1, 1));
        land.undo();
        land.undo();
        land.undo();
        // Stacks of a series that was undone are not those of a new one in its place.
        Check.say(land, "new");
        land.found(9, 9);
        land.buy(2, 1, 1);
        land.undo();
        land.undo();
        Check.say(land, "newer");
        land.found(9, 9);
        check.is(17, () -> land.count(1));

        anew("promise 32");
        check.is(110, () -> land.buy(0, 0, 2));
        check.is(50, () -> land.buy(0, 9, 1));
        check.is("2 167 4 3 50 0 2", () -> Check.counts(land));
        check.is("1610700 0 0 0 0 0 0 3", () -> Check.accounts(land));
        check.is(INDEX, () -> land.buy(2, 0, 0));
        check.is(INDEX, () -> land.buy(0, 10, 0));
        check.is(INDEX, () -> land.buy(0, -1, 0));
        check.is(ARGUMENT, () -> land.buy(0, 0, 0));
        check.is(ARGUMENT, () -> land.buy(0, 0, 100));
        check.is("9999 -5 -3 9999", () -> {
            PaperLand x = Check.landOf("land 0 1;series a 1 1 size 0 9900");
            return x.buy(0, 0, 99) + " " + x.buy(0, 0, 1) + " " + x.buy(0, 1, 1) + " " + x.size(0, 0, 3);
        });
        check.is("-5 -3 0 0 1 0 1 0 0", () -> {
            PaperLand x = Check.landOf("land 0 500;series a 1 1");
            return x.buy(0, 0, 20) + " " + x.buy(0, 1, 99) + " " + x.count(6) + " " + Check.refusals(x);
        });

        anew("promise 33");
        check.is(6, () -> land.cut(0, 0, 3));
        check.is("royal0:7 royal1:6 royal2:3 long0:4", () -> Check.stacks(land));
        check.is("199500 0 0 300 3 0 0 0", () -> Check.accounts(land));
        check.is(1, () -> land.count(6));
        check.is(-3, () -> land.cut(0, 9, 1));
        check.is(-4, () -> land.cut(0, 0, 8));
        check.is(-4, () -> land.cut(0, 8, 9999));
        check.is(1, () -> land.count(6));
        check.is(INDEX, () -> land.cut(2, 0, 0));
        check.is(INDEX, () -> land.cut(0, 10, 0));
        check.is(ARGUMENT, () -> land.cut(0, 9, 0));
        check.is(ARGUMENT, () -> land.cut(0, 0, 10000));
        check.is("-5 9998 -3 -3", () -> {
            PaperLand x = Check.landOf("land 0 500;series a 3 3 size 0 5000 size 1 1 size 2 1;series b 9 9 size 0 4999");
            return x.cut(0, 0, 5000) + " " + x.cut(1, 0, 4999) + " " + x.cut(0, 2, 1) + " " + x.cut(0, 3, 5);
        });
        check.is("9999 -5", () -> {
            PaperLand x = Check.landOf("land 0 500;series a 3 3 size 0 5000 size 1 1");
            return x.cut(0, 0, 4999) + " " + x.cut(0, 0, 1);
        });
        check.is(-4, () -> Check.landOf("land 0 500;series a 3 3 size 0 4999 size 1 9999").cut(0, 0, 5000));

        anew("promise 34");
        check.is(2, () -> land.order(40, 60, 5));
        check.is("royal0:9 royal1:1 long0:4", () -> Check.stacks(land));
        check.is("199500 12000 5500 100 2 1 5 0", () -> Check.accounts(land));
        check.is(2, () -> land.order(40, 60, 3));
        check.is("royal0:8 royal1:1 royal2:1 long0:4", () -> Check.stacks(land));
        check.is(100, () -> land.order(150, 50, 4));
        check.is(-6, () -> land.order(136, 94, 1));
        check.is(-7, () -> land.order(40, 60, 999));
        check.is("3 3", () -> land.count(6) + " " + land.account(5));
        check.is("0 0 0 0 1 1", () -> Check.refusals(land));
        check.is(5, () -> land.order(10, 10, 2));
        check.is("royal0:8 royal1:1 royal3:1 royal4:1", () -> Check.stacks(land));
        check.is(0, () -> land.gap());

        anew("promise 35");
        check.is(3, () -> land.setEdge(0));
        check.is(0, () -> land.setEdge(50));
        check.is(50, () -> land.setEdge(50));
        check.is(ARGUMENT, () -> land.setEdge(-1));
        check.is(ARGUMENT, () -> land.setEdge(51));
        check.is("50 3", () -> land.count(3) + " " + land.count(6));
        check.is("0 41", () -> land.size(0, 0, 6) + " " + land.size(0, 0, 7));

        anew("promise 36");
        check.is(50, () -> land.setReam(1));
        check.is(1, () -> land.setReam(500));
        check.is(500, () -> land.setReam(500));
        check.is(ARGUMENT, () -> land.setReam(0));
        check.is(ARGUMENT, () -> land.setReam(501));
        check.is("500 3", () -> land.count(4) + " " + land.count(6));
        check.is(510, () -> land.buy(0, 0, 1));
    }

    private void writtenAndKept() {
        anew("promise 37");
        check.is(26, () -> land.writeStacks());
        check.is("royal0:10 royal2:3 long0:4", () -> Check.output(land));
        land.cut(0, 2, 3);
        check.is("royal0:10 royal2:3 long0:4", () -> Check.output(land));
        check.is(26, () -> land.writeStacks());
        check.is("royal0:10 royal3:6 long0:4", () -> Check.output(land));
        land = Check.landOf("land 3 500;series abcdef 2000 2000 size 0 9999;series bbcdef 2000 2000;"
            + "series cbcdef 2000 2000;series dbcdef 2000 2000;series ebcdef 2000 2000");
        for (int s = 0; s < 5; s++) {
            for (int n = 0; n < 10; n++) {
                land.buy(s, n, 19);
            }
        }
        check.is(649, () -> land.writeStacks());
        check.is('9', () -> land.outputByte(645));
        check.is("ebcdef9:9500", () -> Check.output(land).substring(637));
        check.is(0, () -> Check.landOf("land 3 50;series a 1 1").writeStacks());
        land = new PaperLand();
        land.writeStacks();
        Check.load(land, "land 3 50");
        check.is(0, () -> land.writeStacks());
        check.is(-1, () -> land.outputByte(0));

        anew("promise 38");
        check.is(8, () -> land.writeSheet(0, 0, 2, false));
        check.is("7 2\n6 3\n", () -> Check.output(land));
        check.is("8 1\n5 4\n", () -> Check.sheet(land, 0, 0, 2, true));
        check.is("1\n", () -> Check.sheet(land, 0, 9, 0, false));
        check.is("15 10\n2 7\n3 6\n14 11\n", () -> Check.sheet(land, 0, 0, 3, false));
        check.is(true, () -> {
            for (int folds = 0; folds <= 5; folds++) {
                if (!Check.sheet(land, 0, 0, folds, true).equals(sheetByPages(folds, true))
                    || !Check.sheet(land, 0, 0, folds, false).equals(sheetByPages(folds, false))) {
                    return false;
                }
            }
            return true;
        });
        check.is(ARGUMENT, () -> land.writeSheet(0, 0, 6, false));
        check.is(ARGUMENT, () -> land.writeSheet(0, 9, 1, false));
        check.is(INDEX, () -> land.writeSheet(0, 10, 6, false));
        check.is(INDEX, () -> land.writeSheet(2, 0, 0, false));
        land.writeStacks();
        check.is(ARGUMENT, () -> land.writeSheet(0, 0, -1, false));
        check.is("royal0:10 royal2:3 long0:4", () -> Check.output(land));

        anew("promise 39");
        check.is(-1, () -> land.outputByte(0));
        land.writeStacks();
        check.is('r', () -> land.outputByte(0));
        check.is(':', () -> land.outputByte(6));
        check.is(' ', () -> land.outputByte(9));
        check.is('4', () -> land.outputByte(25));
        check.is(-1, () -> land.outputByte(26));
        check.is(-1, () -> land.outputByte(-1));
        check.is(-1, () -> land.outputByte(Integer.MAX_VALUE));
        land.writeSheet(0, 0, 0, true);
        check.is("2\n", () -> Check.output(land));

        anew("promise 40");
        check.is(-1, () -> land.undo());
        for (int edge = 10; edge <= 19; edge++) {
            land.setEdge(edge);
        }
        check.is(8, () -> land.count(6));
        for (int left = 7; left >= 0; left--) {
            int due = left;
            check.is(due, () -> land.undo());
            check.is(11 + left, () -> land.count(3));
        }
        check.is(-1, () -> land.undo());
        check.is(11, () -> land.count(3));
        land.order(40, 60, 2);
        land.buy(0, 0, 1);
        land.setReam(9);
        land.cut(0, 0, 1);
        Check.play(land, "edge 7;buy none 0 1;");
        Check.say(land, "keep");
        land.writeStacks();
        land.save(1);
        land.cut(0, 9, 1);
        check.is("4 3 2 1 0 -1", () -> land.undo() + " " + land.undo() + " " + land.undo() + " " + land.undo() + " "
            + land.undo() + " " + land.undo());
        check.is("2 17 3 11 50 0 0", () -> Check.counts(land));
        check.is("199500 0 0 0 0 0 0 0", () -> Check.accounts(land));
        check.is("1 1 0 0 0 0", () -> Check.refusals(land));
        check.is("royal0:58 royal1:2 royal2:3 long0:4", () -> Check.output(land));
        check.is(4, () -> land.truncate(4));
        check.is(0, () -> land.ordered(40, 60));
        land.setEdge(1);
        check.is(2, () -> land.restore(1));
        check.is(7, () -> land.count(3));
        check.is(-1, () -> land.undo());
        Check.play(land, "x");
        land.setEdge(1);
        land.undo();
        check.is("1 0", () -> land.errorCode() + " " + land.errorPosition());

        anew("promise 41");
        check.is(INDEX, () -> land.save(2));
        check.is(INDEX, () -> land.save(-1));
        check.is(2, () -> land.save(0));
        land.setEdge(20);
        check.is(2, () -> land.save(1));
        check.is(1, () -> land.count(6));
        Check.say(land, "third");
        land.found(5, 5);
        check.is(3, () -> land.save(0));
        check.is(2, () -> land.restore(1));
        check.is(20, () -> land.count(3));
        check.is(3, () -> land.restore(0));
        check.is(5, () -> land.size(2, 0, 1));
        check.is('t', () -> land.letter(2, 0));

        anew("promise 42");
        check.is(INDEX, () -> land.restore(2));
        check.is(INDEX, () -> land.restore(-1));
        check.is(STATE, () -> land.restore(0));
        land.order(40, 60, 5);
        land.save(0);
        check.is(STATE, () -> land.restore(1));
        land.order(50, 10, 5);
        land.setReam(3);
        land.setEdge(1);
        land.buy(1, 1, 1);
        Check.say(land, "third");
        land.found(5, 5);
        Check.say(land, "left");
        land.writeStacks();
        String before = Check.output(land);
        check.is(2, () -> land.restore(0));
        check.is("2 14 3 3 50 1 0", () -> Check.counts(land));
        check.is("199500 12000 5500 100 2 1 5 0", () -> Check.accounts(land));
        check.is("40 60 5 -1", () -> land.print(0, 0) + " " + land.print(0, 1) + " " + land.print(0, 2) + " " + land.print(1, 0));
        check.is(before, () -> Check.output(land));
        check.is(4, () -> land.truncate(4));
        check.is(-1, () -> land.undo());
        check.is("royal0:9 royal1:1 long0:4", () -> Check.stacks(land));
        land.cut(0, 0, 1);
        check.is(2, () -> land.restore(0));
        check.is("royal0:9 royal1:1 long0:4", () -> Check.stacks(land));
        // Another print in the place of the saved one, and more of the same.
        land = new PaperLand();
        land.order(40, 60, 5);
        land.save(0);
        land.undo();
        land.order(30, 20, 1);
        land.save(1);
        land.restore(0);
        check.is("40 60 5", () -> land.print(0, 0) + " " + land.print(0, 1) + " " + land.print(0, 2));
        land.order(40, 60, 2);
        check.is(7, () -> land.ordered(40, 60));
        land.undo();
        check.is(5, () -> land.ordered(40, 60));
        land.restore(1);
        check.is("30 20 1", () -> land.print(0, 0) + " " + land.print(0, 1) + " " + land.print(0, 2));
        check.is(0, () -> land.ordered(40, 60));
    }

    private String sheetByPages(int folds, boolean isBack) {
        StringBuilder text = new StringBuilder();
        for (int row = 0; row < land.grid(0, 0, folds, false); row++) {
            for (int column = 0; column < land.grid(0, 0, folds, true); column++) {
                text.append(column == 0 ? "" : " ").append(land.page(0, 0, folds, row, column, isBack));
            }
            text.append("\n");
        }
        return text.toString();
    }
}
