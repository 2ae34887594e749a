/** Counts answers that are not the ones that are due, and prints them. */
final class Check {
    interface Call {
        Object answer();
    }

    private int wrong;
    private int checked;
    private String part = "";

    void begin(String nextPart) {
        part = nextPart;
    }

    /** The answer of a call, or throws. and the name of what it throws; a char is due as its number. */
    void is(Object due, Call call) {
        String wanted = String.valueOf(due instanceof Character sign ? (Object) (int) sign : due);
        String got = answer(call);
        checked++;
        if (!got.equals(wanted)) {
            fail("answered " + got + ", due is " + wanted);
        }
    }

    static String answer(Call call) {
        try {
            return String.valueOf(call.answer());
        } catch (RuntimeException e) {
            return "throws." + e.getClass().getSimpleName();
        }
    }

    void fail(String why) {
        wrong++;
        System.out.println(part + ", line " + lineOfTest() + ": " + why);
    }

    int checked() {
        return checked;
    }

    /** The line of the test itself, not of what the tests share. */
    private static int lineOfTest() {
        for (StackTraceElement at : new Throwable().getStackTrace()) {
            if (!at.getClassName().equals("Check") && !at.getClassName().equals("BySentence")) {
                return at.getLineNumber();
            }
        }
        return 0;
    }

    void end() {
        System.out.println(checked + " answers, " + wrong + " of them wrong");
        if (wrong > 0) {
            System.exit(1);
        }
    }

    /** Puts a text into the buffer, in place of what is there. */
    static void say(PaperLand land, String text) {
        land.truncate(0);
        for (int at = 0; at < text.length(); at += 20) {
            int[] fours = new int[5];
            for (int k = 0; k < 20; k++) {
                int b = at + k < text.length() ? text.charAt(at + k) : 32;
                fours[k / 4] |= (b & 255) << (24 - 8 * (k % 4));
            }
            land.append(fours[0], fours[1], fours[2], fours[3], fours[4]);
        }
        land.truncate(text.length());
    }

    static int load(PaperLand land, String setup) {
        say(land, setup);
        return land.load();
    }

    static int play(PaperLand land, String script) {
        say(land, script);
        return land.play();
    }

    static PaperLand landOf(String setup) {
        PaperLand land = new PaperLand();
        if (load(land, setup) < 0) {
            throw new IllegalArgumentException("no setup: " + setup);
        }
        return land;
    }

    /** The answer of load, the code and the position of the error. */
    static String loadError(String setup) {
        PaperLand land = new PaperLand();
        return load(land, setup) + " " + land.errorCode() + " " + land.errorPosition();
    }

    /** The answer of play, the code and the position of the error. */
    static String playError(String script) {
        PaperLand land = new PaperLand();
        return play(land, script) + " " + land.errorCode() + " " + land.errorPosition();
    }

    static String output(PaperLand land) {
        StringBuilder text = new StringBuilder();
        for (int index = 0; land.outputByte(index) >= 0; index++) {
            text.append((char) land.outputByte(index));
        }
        return text.toString();
    }

    static String stacks(PaperLand land) {
        land.writeStacks();
        return output(land);
    }

    static String sheet(PaperLand land, int series, int n, int folds, boolean isBack) {
        land.writeSheet(series, n, folds, isBack);
        return output(land);
    }

    static String accounts(PaperLand land) {
        StringBuilder text = new StringBuilder();
        for (int what = 0; what <= 7; what++) {
            text.append(what == 0 ? "" : " ").append(land.account(what));
        }
        return text.toString();
    }

    static String counts(PaperLand land) {
        StringBuilder text = new StringBuilder();
        for (int what = 0; what <= 6; what++) {
            text.append(what == 0 ? "" : " ").append(land.count(what));
        }
        return text.toString();
    }

    static String refusals(PaperLand land) {
        StringBuilder text = new StringBuilder();
        for (int code = -2; code >= -7; code--) {
            text.append(code == -2 ? "" : " ").append(land.refused(code));
        }
        return text.toString();
    }
}
