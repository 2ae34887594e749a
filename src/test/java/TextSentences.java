/** Promises 1 to 7 (a new object, the text), sentence by sentence. */
final class TextSentences extends BySentence {
    private static final String SETUP = "land 1 2;series q 10 10 size 0 1";

    TextSentences(Document document, Check check) {
        super(document, check);
    }

    @Override
    void run() {
        newObject();
        append();
        truncate();
        load();
        play();
        errorCode();
        errorPosition();
    }

    private void newObject() {
        section("Promise 1");
        says("Creates what there is by the setup \"land 3 50; series royal 100 141 size 0 10 size 2 3; series long 60 200 "
            + "size 0 4\",");
        String byNew = all();
        is("2 17 3 3 50 0 0|199500 0 0 0 0 0 0 0|0 -1||royal 100 141 10 0 3 0 0 0 0 0 0 0|long 60 200 4 0 0 0 0 0 0 0 0 0"
            + "|0 0 0 0 0 0", () -> byNew);
        load("land 3 50; series royal 100 141 size 0 10 size 2 3; series long 60 200 size 0 4");
        is(byNew, () -> all());

        says("with an empty text buffer,");
        holds(0);
        is(20, () -> land.append(0, 0, 0, 0, 0));

        says("nothing written");
        is(-1, () -> land.outputByte(0));

        says("and no saved state.");
        is(STATE, () -> land.restore(0));
        is(STATE, () -> land.restore(1));
    }

    private void append() {
        section("Promise 2");
        says("Appends 20 bytes to the text buffer: four of each parameter, the highest byte first.");
        land.append(0x6c616e64, 0x20313220, 0x3334353b, 0x73657269, 0x65732061);
        land.append(0x62636465, 0x66203120, 0x3220206f, -1, -1);
        land.truncate(30);
        is("1 abcdef 12 345 1 2", () -> land.load() + " " + name(0) + " " + land.count(3) + " " + land.count(4) + " "
            + land.size(0, 0, 0) + " " + land.size(0, 0, 1));
        // The bytes of a number below 0 are those of its 32 bits, and none of them is a sign of the text.
        is("-1 1 0", () -> {
            PaperLand x = new PaperLand();
            x.append(-1, 0, 0, 0, 0);
            return x.load() + " " + x.errorCode() + " " + x.errorPosition();
        });
        land.append(0x7a617a80, 0, 0, 0, 0);
        land.truncate(4);
        is(-1, () -> land.found(1, 1));
        land.truncate(3);
        is(1, () -> land.found(1, 1));
        is("zaz", () -> name(1));
        // What was cut off does not come back.
        say("abcdef");
        land.truncate(1);
        land.append(0x79787776, 0x20202020, 0, 0, 0);
        land.truncate(5);
        is(2, () -> land.found(1, 1));
        is("ayxwv", () -> name(2));

        says("Returns the number of bytes in the buffer.");
        is(20, () -> land.append(1, 2, 3, 4, 5));
        is(40, () -> land.append(0, 0, 0, 0, 0));
        land.truncate(1);
        is(21, () -> land.append(LEAST, GREATEST, -1, 0, 1));

        says("Throws `IllegalStateException` if there would be more than 600");
        for (int k = 0; k < 29; k++) {
            land.append(k, k, k, k, k);
        }
        is(600, () -> land.append(1, 2, 3, 4, 5));
        is(STATE, () -> land.append(1, 2, 3, 4, 5));
        is(600, () -> land.truncate(600));
        for (int length = 599; length > 580; length -= 6) {
            land.truncate(length);
            is(STATE, () -> land.append(1, 2, 3, 4, 5));
        }
        holds(581);
        is(STATE, () -> land.append(1, 2, 3, 4, 5));
        land.truncate(580);
        is(600, () -> land.append(1, 2, 3, 4, 5));
        land.load();
        is(20, () -> land.append(1, 2, 3, 4, 5));
    }

    private void truncate() {
        section("Promise 3");
        says("Cuts the text to its first bytes.");
        say("abcdef");
        land.truncate(3);
        land.found(1, 1);
        is("abc", () -> name(2));

        says("`length`: the new length, 0 to the present length");
        say("abcdef");
        is(ARGUMENT, () -> land.truncate(-1));
        is(6, () -> land.truncate(6));
        is(0, () -> land.truncate(0));
        is(0, () -> land.truncate(0));
        is(ARGUMENT, () -> land.truncate(1));

        says("Returns the new length.");
        say("abcdef");
        is(5, () -> land.truncate(5));
        is(2, () -> land.truncate(2));

        says("Throws `IllegalArgumentException` if length is out of range");
        for (int bad : new int[] {-1, 1, 600, LEAST, GREATEST}) {
            is(ARGUMENT, () -> land.truncate(bad));
        }
        for (int k = 0; k < 30; k++) {
            land.append(k, k, k, k, k);
        }
        is(ARGUMENT, () -> land.truncate(601));
        is(600, () -> land.truncate(600));
        is(ARGUMENT, () -> land.truncate(-1));
        is(ARGUMENT, () -> land.truncate(LEAST));
        is(599, () -> land.truncate(599));
        is(ARGUMENT, () -> land.truncate(600));
    }

    /** A land in which all has changed that load replaces. */
    private void makeUse() {
        play("buy none 0 1;");
        land.cut(0, 9, 1);
        land.cut(0, 0, 99);
        land.order(201, 1, 1);
        land.order(40, 60, 999);
        land.order(40, 60, 5);
        land.buy(0, 0, 99);
        land.buy(0, 0, 99);
        land.buy(0, 0, 99);
        say("new");
        land.found(3, 3);
        land.save(0);
        land.save(1);
        land.setEdge(9);
        land.setReam(9);
        land.writeStacks();
    }

    private void load() {
        section("Promise 4");
        says("Reads the text as a setup.");
        is(1, () -> Check.load(land, SETUP));
        is("1 1 1 1 2 0 0|100 0 0 0 0 0 0 0|0 -1||q 10 10 1 0 0 0 0 0 0 0 0 0|0 0 0 0 0 0", () -> all());
        is("-1 1", () -> Check.load(land, "edge 1;") + " " + land.errorCode());

        says("Without an error it replaces everything but the written text:");
        makeUse();
        String written = Check.output(land);
        is(true, () -> written.length() > 20);
        is(1, () -> Check.load(land, SETUP));
        is("1 1 1 1 2 0 0|100 0 0 0 0 0 0 0|0 -1|" + written + "|q 10 10 1 0 0 0 0 0 0 0 0 0|0 0 0 0 0 0", () -> all());
        is("q 7", () -> name(0) + " " + land.sizes(0));
        is(0, () -> Check.load(land, "land 50 500"));
        is("0 0 0 50 500 0 0|0 0 0 0 0 0 0 0|0 -1|" + written + "|0 0 0 0 0 0", () -> all());

        says("all counts of refusals are 0,");
        makeUse();
        is("1 1 1 1 1 1", () -> Check.refusals(land));
        load(SETUP);
        is("0 0 0 0 0 0", () -> Check.refusals(land));

        says("all accounts but account 0 are 0 (account 0 is the AREA of all SHEETS of the setup),");
        makeUse();
        for (int what = 0; what <= 7; what++) {
            int account = what;
            is(true, () -> land.account(account) > 0);
        }
        load("land 3 50;series a 10 10 size 0 2 size 1 3;series b 2000 2000 size 0 9;series c 9 9");
        is("36000350 0 0 0 0 0 0 0", () -> Check.accounts(land));
        is(0, () -> land.gap());
        load("land 3 50;series a 2000 2000 size 0 9999 size 1 9999");
        is("2147483647 0 0 0 0 0 0 0", () -> Check.accounts(land));
        is(0, () -> land.gap());
        load("land 3 50;series a 2000 2000");
        is("0 0 0 0 0 0 0 0", () -> Check.accounts(land));

        says("nothing can be undone,");
        makeUse();
        is(true, () -> land.count(6) > 0);
        load(SETUP);
        is("0 -1", () -> land.count(6) + " " + land.undo());
        is("1 2", () -> land.count(3) + " " + land.count(4));

        says("no state is saved.");
        makeUse();
        load(SETUP);
        is(STATE, () -> land.restore(0));
        is(STATE, () -> land.restore(1));
        land.save(1);
        is(STATE, () -> land.restore(0));
        is(1, () -> land.restore(1));

        says("The buffer is empty afterwards, also behind an error");
        load(SETUP);
        holds(0);
        is(-1, () -> Check.load(land, SETUP + ";"));
        holds(0);
        is(-1, () -> Check.load(land, ""));
        holds(0);

        says("(which changes nothing else but what is told of the error).");
        makeUse();
        String before = all();
        is(0, () -> land.errorCode());
        is(-1, () -> Check.load(land, SETUP + ";series q 1 1"));
        is("3 40", () -> land.errorCode() + " " + land.errorPosition());
        is(before.replace("|0 -1|", "|3 40|"), () -> all());
        is(-1, () -> Check.load(land, "land 50 500;series a 9 9 size 0 5;series b 8 8 size 0 6;series c 7 7;series d 6 6 x"));
        is(before.replace("|0 -1|", "|1 82|"), () -> all());
        is(true, () -> land.undo() > 0);
        is(3, () -> land.restore(0));
        is(3, () -> land.restore(1));

        says("Returns the number of SERIES;");
        is(0, () -> Check.load(land, "land 0 1"));
        is(5, () -> Check.load(land, "land 0 1;series a 1 1;series b 1 1;series c 1 1;series d 1 1;series e 1 1"));

        says("NONE if the text has an error.");
        is(-1, () -> land.load());
        is(-1, () -> Check.load(land, "land 0"));
        is(-1, () -> Check.load(land, "land 0 1;series a 1 1;series b 1 1;series c 1 1;series d 1 1;series e 1 1;series f 1 1"));
    }

    private void play() {
        section("Promise 5");
        says("Reads the text as a script and, if it has no error, does its orders (section 5).");
        is(2, () -> play("edge 7;ream 8;"));
        is("7 8", () -> land.count(3) + " " + land.count(4));
        is(-1, () -> play("edge 9;ream 9;edge"));
        is("7 8", () -> land.count(3) + " " + land.count(4));
        is("-1 1", () -> play("land 3 50") + " " + land.errorCode());

        says("This is a change, also if no order is done.");
        is("0 1", () -> play("") + " " + land.count(6));
        is("0 2", () -> play("again 20();") + " " + land.count(6));
        is("0 3", () -> play("buy none 0 1;edge 9;") + " " + land.count(6));
        is("3 4", () -> play("edge 7;edge 8;edge 9;") + " " + land.count(6));
        is("3 3", () -> land.undo() + " " + land.count(3));
        is("2 1 0 -1", () -> land.undo() + " " + land.undo() + " " + land.undo() + " " + land.undo());
        is(1, () -> land.refused(-2));

        says("The buffer is empty afterwards, also behind an error");
        play("edge 7;");
        holds(0);
        play("");
        holds(0);
        play("edge 7");
        holds(0);
        play("buy none 0 1;");
        holds(0);

        says("(which changes nothing else but what is told of the error).");
        makeUse();
        String before = all();
        is(-1, () -> play("edge 9;ream 9;buy none 0 1;cut royal 0 1;edge 51;"));
        is(before.replace("|0 -1|", "|2 46|"), () -> all());
        is(3, () -> land.restore(0));

        says("Returns the number of orders that were done (\"again\" not counted);");
        is(0, () -> play(""));
        is(1, () -> play("edge 1;"));
        is(6, () -> play("again 2(edge 1;again 2(ream 1;););"));
        is(40, () -> play("again 20(edge 1;again 20(ream 1;););"));
        is(2, () -> play("edge 1;edge 2;cut none 0 1;edge 3;"));

        says("NONE if the text has an error.");
        is(-1, () -> play("edge 1"));
        is(-1, () -> play(" ?"));
        is(-1, () -> play("again 1(again 1(again 1(again 1(););););"));
    }

    private void errorCode() {
        section("Promise 6");
        says("Returns the code of the error of the latest call of load or play.");
        Check.load(land, "land x");
        is(1, () -> land.errorCode());
        play("edge 51;");
        is(2, () -> land.errorCode());
        Check.load(land, "land 0 1;series a 1 1 size 1 1");
        is(3, () -> land.errorCode());
        land.setEdge(1);
        land.save(0);
        land.restore(0);
        land.setEdge(1);
        land.undo();
        say("abcdefg");
        land.found(1, 1);
        land.order(201, 1, 1);
        is(3, () -> land.errorCode());

        says("Returns the code 1 to 4;");
        is("-1 1 4", () -> Check.playError("edge"));
        is("-1 2 5", () -> Check.playError("ream 0;"));
        is("-1 3 29", () -> Check.loadError("land 0 1;series a 1 1;series a 1 1"));
        is("-1 4 24", () -> Check.playError("again 1(again 1(again 1(again 1("));

        says("0 if that text had no error, or there was no such call.");
        is(0, () -> land.errorCode());
        land.setEdge(1);
        is(0, () -> land.errorCode());
        play("edge 51;");
        play("buy none 0 1;");
        is(0, () -> land.errorCode());
        play("edge 51;");
        load(SETUP);
        is(0, () -> land.errorCode());
    }

    private void errorPosition() {
        section("Promise 7");
        says("Returns the position of the error of the latest call of load or play.");
        Check.load(land, "land x");
        is(5, () -> land.errorPosition());
        play("  edge 51;");
        is(7, () -> land.errorPosition());
        land.setEdge(1);
        land.save(0);
        land.restore(0);
        say("abcdefg");
        land.found(1, 1);
        is(7, () -> land.errorPosition());

        says("Returns the position;");
        is("-1 1 0", () -> Check.playError("x"));
        is("-1 1 0", () -> Check.loadError(""));
        is("-1 1 600", () -> Check.loadError("land 1" + " ".repeat(594)));

        says("NONE if that text had no error, or there was no such call.");
        is(-1, () -> land.errorPosition());
        play("edge 51;");
        play("buy none 0 1;");
        is(-1, () -> land.errorPosition());
        play("edge 51;");
        load(SETUP);
        is(-1, () -> land.errorPosition());
    }
}
