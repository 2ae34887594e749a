import java.lang.reflect.InvocationTargetException;
import java.lang.reflect.Method;
import java.util.ArrayList;
import java.util.Arrays;
import java.util.LinkedHashMap;
import java.util.List;
import java.util.Map;
import java.util.Random;

/** Long runs of calls by fixed seeds, each answered by PaperLand as by ModelLand. */
public final class AgainstModelTest {
    private static final int RUNS = 3000;
    private static final int CALLS = 500;

    private static final Map<String, Method> REAL = methodsOf(PaperLand.class);
    private static final Map<String, Method> MODEL = methodsOf(ModelLand.class);

    private static final String[] NAMES = {"a", "b", "royal", "long", "series", "buy", "zz", "zzzzzz", "size", "x"};

    private final Random random;
    private final PaperLand land = new PaperLand();
    private final ModelLand model = new ModelLand();
    private final List<String> calls = new ArrayList<>();
    private int wrong;
    private int used;

    private AgainstModelTest(long seed) {
        random = new Random(seed);
    }

    public static void main(String[] args) {
        int wrong = 0;
        for (long seed = 1; seed <= RUNS && wrong < 5; seed++) {
            AgainstModelTest test = new AgainstModelTest(seed);
            test.run();
            if (test.wrong > 0) {
                wrong++;
                System.out.println("seed " + seed + ":");
                for (String call : test.calls) {
                    System.out.println("  " + call);
                }
            }
        }
        if (wrong > 0) {
            System.exit(1);
        }
        System.out.println(RUNS + " runs are answered as by the model");
    }

    private static Map<String, Method> methodsOf(Class<?> type) {
        Map<String, Method> methods = new LinkedHashMap<>();
        for (Method method : type.getDeclaredMethods()) {
            if (!java.lang.reflect.Modifier.isPrivate(method.getModifiers()) && !method.isSynthetic()) {
                methods.put(method.getName(), method);
            }
        }
        return methods;
    }

    private void run() {
        if (random.nextInt(4) > 0) {
            say(setup(0));
            call("load");
        }
        while (used < CALLS && wrong == 0) {
            step();
        }
    }

    private static String answer(Method method, Object on, Object[] arguments) {
        try {
            return String.valueOf(method.invoke(on, arguments));
        } catch (InvocationTargetException e) {
            return "throws." + e.getCause().getClass().getSimpleName();
        } catch (IllegalAccessException e) {
            return "no access";
        }
    }

    private String call(String name, Object... arguments) {
        String got = answer(REAL.get(name), land, arguments);
        String due = answer(MODEL.get(name), model, arguments);
        String row = name + Arrays.toString(arguments) + " answered " + got;
        if (!got.equals(due)) {
            wrong++;
            row += ", due is " + due;
        }
        calls.add(row);
        used++;
        return got;
    }

    private void say(String text) {
        call("truncate", 0);
        for (int at = 0; at < text.length(); at += 20) {
            int[] fours = new int[5];
            for (int k = 0; k < 20; k++) {
                int b = at + k < text.length() ? text.charAt(at + k) : 32;
                fours[k / 4] |= (b & 255) << (24 - 8 * (k % 4));
            }
            call("append", fours[0], fours[1], fours[2], fours[3], fours[4]);
        }
        if (text.length() <= 600) {
            call("truncate", text.length());
        }
        calls.add("text: " + text);
    }

    // ---- arguments: mostly good ones, sometimes any

    private int among(int least, int most) {
        return least + random.nextInt(most - least + 1);
    }

    private boolean seldom() {
        return random.nextInt(25) == 0;
    }

    private int any() {
        int[] odd = {Integer.MIN_VALUE, Integer.MAX_VALUE, -1, 0, -2, -8, 11, 51, 501, 1000, 2001, 10000};
        return odd[random.nextInt(odd.length)];
    }

    private int range(int least, int most) {
        return seldom() ? (random.nextBoolean() ? any() : random.nextBoolean() ? least - 1 : most + 1)
            : among(least, most);
    }

    private int series() {
        return range(0, random.nextInt(3) > 0 ? 1 : 4);
    }

    private int n() {
        return random.nextBoolean() ? range(0, 3) : range(0, 9);
    }

    private int side() {
        if (random.nextInt(3) > 0) {
            return range(1, 100);
        }
        return range(1, random.nextBoolean() ? 200 : 2000);
    }

    private int number() {
        return random.nextBoolean() ? range(1, 6) : random.nextInt(4) > 0 ? range(1, 60) : range(1, 999);
    }

    // ---- texts

    private String gap() {
        String[] gaps = {" ", " ", " ", " ", "  ", "\n", " \n "};
        return gaps[random.nextInt(gaps.length)];
    }

    private String figure(int least, int most, int fault) {
        String digits = Integer.toString(random.nextInt(100) < fault ? random.nextBoolean() ? most + 1 : least - 1
            : random.nextInt(8) == 0 ? (random.nextBoolean() ? least : most) : among(least, most));
        return (random.nextInt(12) == 0 ? "00" : "") + (digits.startsWith("-") ? "99999999999" : digits);
    }

    private String name(int fault) {
        return random.nextInt(100) < fault ? "abcdefg" : NAMES[random.nextInt(NAMES.length)];
    }

    private String spoilt(String text, int fault) {
        StringBuilder spoilt = new StringBuilder(text);
        if (random.nextInt(100) < 8 * fault && spoilt.length() > 0) {
            int at = random.nextInt(spoilt.length());
            String signs = ";() \n09azA\t\u00e9:";
            switch (random.nextInt(4)) {
                case 0:
                    spoilt.deleteCharAt(at);
                    break;
                case 1:
                    spoilt.insert(at, signs.charAt(random.nextInt(signs.length())));
                    break;
                case 2:
                    spoilt.setCharAt(at, signs.charAt(random.nextInt(signs.length())));
                    break;
                default:
                    spoilt.setLength(at);
            }
        }
        return spoilt.length() > 620 ? spoilt.substring(0, 620) : spoilt.toString();
    }

    private String setup(int fault) {
        StringBuilder text = new StringBuilder("land").append(gap()).append(figure(0, random.nextBoolean() ? 50 : 4, fault))
            .append(gap()).append(figure(1, random.nextBoolean() ? 500 : 30, fault));
        int many = random.nextInt(6) + (random.nextInt(12) == 0 ? 1 : 0);
        List<String> names = new ArrayList<>(List.of(NAMES));
        for (int k = 0; k < many; k++) {
            int most = random.nextInt(3) > 0 ? 300 : random.nextBoolean() ? 2000 : 6;
            String name = random.nextInt(100) < fault ? NAMES[0] : names.remove(random.nextInt(names.size()));
            text.append(";").append(gap()).append("series").append(gap()).append(name).append(gap())
                .append(figure(1, most, fault)).append(gap()).append(figure(1, most, fault));
            int stacks = random.nextInt(4);
            for (int n = 0; n < 10 && stacks > 0; n++) {
                if (random.nextInt(3) == 0) {
                    stacks--;
                    int told = random.nextInt(100) < fault ? Math.max(0, n - 1) : most < 7 && fault == 0 ? 0 : n;
                    text.append(gap()).append("size ").append(told).append(" ")
                        .append(figure(0, random.nextInt(4) > 0 ? 40 : 9999, fault));
                    if (told == 0 && n > 0) {
                        stacks = 0;
                    }
                }
            }
        }
        return spoilt(text.append(random.nextInt(4) == 0 ? gap() : "").toString(), fault);
    }

    private String script(int fault) {
        return spoilt(orders(0, fault, random.nextInt(12) == 0 ? 32 : random.nextInt(8)), fault);
    }

    private String orders(int depth, int fault, int many) {
        StringBuilder text = new StringBuilder();
        for (int k = 0; k < many; k++) {
            text.append(order(depth, fault)).append(";");
            if (random.nextInt(3) == 0) {
                text.append(gap());
            }
        }
        return text.toString();
    }

    private String order(int depth, int fault) {
        int kind = random.nextInt(12);
        if (kind < 3) {
            return "buy " + name(fault) + gap() + figure(0, random.nextBoolean() ? 3 : 9, fault) + gap()
                + figure(1, random.nextInt(3) > 0 ? 3 : 99, fault);
        }
        if (kind < 5) {
            return "cut " + name(fault) + gap() + figure(0, random.nextBoolean() ? 3 : 9, fault) + gap()
                + figure(1, random.nextInt(3) > 0 ? 3 : 9999, fault);
        }
        if (kind < 8) {
            int most = random.nextInt(3) > 0 ? 90 : 2000;
            return "order " + figure(1, most, fault) + gap() + figure(1, most, fault) + gap()
                + figure(1, random.nextInt(3) > 0 ? 5 : 999, fault);
        }
        if (kind == 8) {
            return "edge " + figure(0, random.nextBoolean() ? 5 : 50, fault);
        }
        if (kind == 9) {
            return "ream " + figure(1, random.nextBoolean() ? 30 : 500, fault);
        }
        if (depth >= 3 && random.nextInt(100) >= 5 * fault) {
            return "edge 1";
        }
        return "again " + figure(1, 20, fault) + gap() + "(" + orders(depth + 1, fault, random.nextInt(4)) + ")";
    }

    // ---- calls

    private void step() {
        int kind = random.nextInt(100);
        if (kind < 4) {
            say(script(random.nextInt(3) == 0 ? 5 : 0));
            call("play");
            call("errorCode");
            call("errorPosition");
        } else if (kind < 5) {
            say(setup(random.nextInt(5) == 0 ? 1 : 5));
            call("load");
            call("errorCode");
            call("errorPosition");
        } else if (kind < 8) {
            say(random.nextInt(8) == 0 ? "abcdefg" : random.nextInt(8) == 0 ? "a b" : name(0));
            call("found", side(), side());
            if (random.nextInt(10) == 0) {
                call("truncate", 0);
            }
        } else if (kind < 50) {
            change();
        } else if (kind < 75) {
            tell();
        } else if (kind < 88) {
            forecast();
        } else {
            foldAndWrite();
        }
    }

    private void change() {
        switch (random.nextInt(14)) {
            case 0:
            case 1:
                call("buy", series(), n(), random.nextBoolean() ? range(1, 3) : range(1, 99));
                break;
            case 2:
            case 3:
                call("cut", series(), n(), random.nextBoolean() ? range(1, 5) : range(1, random.nextBoolean() ? 99 : 9999));
                break;
            case 4:
            case 5:
            case 6:
            case 7:
                call("order", side(), side(), number());
                break;
            case 8:
                call("setEdge", random.nextBoolean() ? range(0, 4) : range(0, 50));
                break;
            case 9:
                call("setReam", random.nextBoolean() ? range(1, 30) : range(1, 500));
                break;
            case 10:
            case 11:
                call("undo");
                break;
            case 12:
                call("save", range(0, 1));
                break;
            default:
                if (random.nextInt(3) == 0) {
                    call("restore", range(0, 1));
                }
        }
        if (random.nextInt(6) == 0) {
            lookAround();
        }
    }

    /** All that can be told of the state as a whole. */
    private void lookAround() {
        for (int what = 0; what <= 6; what++) {
            call("count", what);
        }
        for (int what = 0; what <= 7; what++) {
            call("account", what);
        }
        call("gap");
        call("lostBits");
        call("writeStacks");
        call("outputByte", range(0, 20));
    }

    private void tell() {
        switch (random.nextInt(12)) {
            case 0:
                call("count", range(0, 6));
                break;
            case 1:
                call("letter", series(), range(0, 6));
                break;
            case 2:
            case 3:
                call("size", series(), n(), range(0, 9));
                break;
            case 4:
                call("sizes", series());
                break;
            case 5:
                call("isAlike", series(), n(), series(), n());
                break;
            case 6:
                call("ratio", series(), n());
                break;
            case 7:
                call("ordered", side(), side());
                break;
            case 8:
                int place = range(0, 30);
                String w = call("print", place, 0);
                String h = call("print", place, 1);
                call("print", place, range(0, 2));
                if (!w.equals("-1") && !w.startsWith("throws")) {
                    call("ordered", Integer.parseInt(w), Integer.parseInt(h));
                }
                break;
            case 9:
                call("account", range(0, 7));
                break;
            case 10:
                call("refused", range(-7, -2));
                break;
            default:
                call("gap");
                call("lostBits");
        }
    }

    private void forecast() {
        int w = side();
        int h = side();
        int number = number();
        switch (random.nextInt(6)) {
            case 0:
                call("fitting", w, h);
                break;
            case 1:
                call("nearest", w, h, number);
                break;
            case 2:
                call("whyNot", w, h, number, range(0, 1));
                call("whyNot", w, h, number, 1);
                break;
            case 3:
                call("ifOrder", w, h, number, range(0, 3));
                call("order", w, h, number);
                break;
            case 4:
                call("mostOf", w, h);
                break;
            default:
                call("cutsFor", series(), n(), random.nextBoolean() ? range(0, 50) : range(0, 9999));
        }
    }

    private void foldAndWrite() {
        int s = series();
        int n = n();
        int folds = range(0, random.nextBoolean() ? 3 : 5);
        switch (random.nextInt(8)) {
            case 0:
                call("mostFolds", s, n);
                break;
            case 1:
                call("grid", s, n, folds, random.nextBoolean());
                break;
            case 2:
            case 3:
                call("page", s, n, folds, range(0, 3), range(0, 3), random.nextBoolean());
                break;
            case 4:
                call("cellOf", s, n, folds, range(1, random.nextBoolean() ? 8 : 64));
                break;
            case 5:
                call("pageGap", s, n, folds);
                break;
            case 6:
                call("writeSheet", s, n, folds, random.nextBoolean());
                for (int index = 0; index < 12; index++) {
                    call("outputByte", range(0, 200));
                }
                break;
            default:
                call("outputByte", range(0, 40));
        }
    }
}
