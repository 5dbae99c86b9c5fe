import java.lang.reflect.InvocationTargetException;
import java.lang.reflect.Method;
import java.lang.reflect.Modifier;
import java.util.ArrayList;
import java.util.Arrays;
import java.util.Comparator;
import java.util.List;
import java.util.TreeMap;

/** Long runs of calls, chosen by a fixed sequence, on the program and on the model, whose answers must agree. */
public final class ModelTest {
    private static final int RUNS = 2500;
    /** The document leaves free what an object answers after this many calls. */
    private static final int CALLS = 512;
    /** So many of them are left for a look at answers of all kinds at the end of a run. */
    private static final int LAST_LOOK = 140;
    private static final String[] NAMES = {"ann", "bea", "cal", "dot", "eve", "fay", "call", "urgent", "wait", "x",
        "abcdef"};
    private static final List<Method> METHODS = faceMethods();

    private final TreeMap<String, Integer> outcomes;
    private long seed;
    private int callsLeft = CALLS;

    private ModelTest(long seed, TreeMap<String, Integer> outcomes) {
        this.seed = seed;
        this.outcomes = outcomes;
    }

    public static void main(String[] args) throws ReflectiveOperationException {
        faceIsComplete();
        TreeMap<String, Integer> outcomes = new TreeMap<>();
        for (int run = 0; run < RUNS; run++) {
            new ModelTest(run, outcomes).run(run);
        }
        runsReachEverything(outcomes);
        Checks.end();
    }

    private static List<Method> faceMethods() {
        List<Method> methods = new ArrayList<>();
        for (Method method : CordBoard.class.getDeclaredMethods()) {
            if (Modifier.isPublic(method.getModifiers())) {
                methods.add(method);
            }
        }
        methods.sort(Comparator.comparing(Method::getName));
        return methods;
    }

    private static void faceIsComplete() throws ReflectiveOperationException {
        Checks.same("public methods", METHODS.size(), 58);
        for (Method method : METHODS) {
            Method twin = Model.class.getDeclaredMethod(method.getName(), method.getParameterTypes());
            Checks.yes("answer of " + method.getName(), twin.getReturnType() == method.getReturnType());
        }
    }

    private int upTo(int bound) {
        seed = seed * 6364136223846793005L + 1442695040888963407L;
        return (int) ((seed >>> 33) % bound);
    }

    private void run(int run) throws ReflectiveOperationException {
        CordBoard board = new CordBoard();
        Model model = new Model();
        int style = run % 3;
        if (style > 0) {
            readText(board, model, true, run);
        }
        int late = style == 2 ? 95 + upTo(8) : 0;
        for (int count = 0; count < late; count++) {
            ask(board, model, named("waitFor"), new Object[] {9999}, run);
        }
        ask(board, model, named("save"), new Object[] {0}, run);
        while (callsLeft > LAST_LOOK) {
            if (upTo(12) == 0 && callsLeft > LAST_LOOK + 50) {
                readText(board, model, upTo(style == 2 ? 12 : 4) == 0, run);
            } else {
                Method method = upTo(3) > 0 ? pickChange() : METHODS.get(upTo(METHODS.size()));
                ask(board, model, method, arguments(method, style), run);
            }
        }
        for (int index = run; callsLeft > 0; index++) {
            Method method = METHODS.get(index % METHODS.size());
            if (!changes(method)) {
                ask(board, model, method, method.getParameterCount() == 1 ? new Object[] {upTo(43) - 1}
                        : arguments(method, style), run);
            }
        }
    }

    private static boolean changes(Method method) {
        return Arrays.asList("append", "truncateInput", "load", "play", "call", "callTrunk", "end", "waitFor",
                "setCuriosity", "undo", "save", "restore").contains(method.getName());
    }

    private Method pickChange() {
        String[] often = {"call", "call", "callTrunk", "end", "end", "waitFor", "setCuriosity", "undo", "save",
            "restore", "startsIfEnded", "writeCalls"};
        return named(often[upTo(often.length)]);
    }

    private static Method named(String name) {
        return METHODS.stream().filter(method -> method.getName().equals(name)).findFirst().get();
    }

    private Object[] arguments(Method method, int style) {
        Class<?>[] types = method.getParameterTypes();
        Object[] arguments = new Object[types.length];
        for (int index = 0; index < types.length; index++) {
            arguments[index] = types[index] == boolean.class ? (Object) (upTo(3) == 0) : (Object) number(method, style);
        }
        return arguments;
    }

    private int number(Method method, int style) {
        int kind = upTo(40);
        if (kind == 0) {
            return new int[] {Integer.MIN_VALUE, Integer.MAX_VALUE, -1, 15, 16, 40, 64}[upTo(7)];
        }
        switch (method.getName()) {
            case "waitFor":
                return style == 2 ? 9999 - upTo(3) : upTo(5) == 0 ? upTo(11000) : upTo(130);
            case "truncateInput":
            case "outputByte":
                return upTo(60);
            case "setCuriosity":
                return upTo(11);
            case "save":
            case "restore":
                return upTo(2);
            case "whoAnswers":
            case "end":
                return upTo(kind < 20 ? 40 : 8);
            default:
                return upTo(kind < 5 ? 20 : 6);
        }
    }

    private void ask(CordBoard board, Model model, Method method, Object[] arguments, int run)
            throws ReflectiveOperationException {
        callsLeft--;
        Method twin = Model.class.getDeclaredMethod(method.getName(), method.getParameterTypes());
        String due = answer(twin, model, arguments);
        String got = answer(method, board, arguments);
        Checks.same("run " + run + ": " + method.getName() + Arrays.toString(arguments), got, due);
        outcomes.merge(method.getName() + (due.startsWith("throws") ? " " + due : ""), 1, Integer::sum);
    }

    private static String answer(Method method, Object object, Object[] arguments)
            throws ReflectiveOperationException {
        try {
            return String.valueOf(method.invoke(object, arguments));
        } catch (InvocationTargetException thrown) {
            return "throws " + thrown.getCause().getClass().getName();
        }
    }

    private void readText(CordBoard board, Model model, boolean isSetup, int run) {
        String text = isSetup ? setup() : script(model, 1 + upTo(8));
        if (upTo(4) == 0) {
            text = spoil(text);
        }
        text = text.substring(0, Math.min(text.length(), 700));
        model.truncateInput(0);
        board.truncateInput(0);
        Checks.type(board, text);
        for (int start = 0; start < text.length(); start += 20) {
            int[] fours = new int[5];
            for (int index = start; index < start + 20; index++) {
                fours[(index - start) / 4] = fours[(index - start) / 4] << 8
                        | (index < text.length() ? text.charAt(index) : 0);
            }
            model.append(fours[0], fours[1], fours[2], fours[3], fours[4]);
        }
        model.truncateInput(text.length());
        int got = isSetup ? board.load() : board.play();
        int due = isSetup ? model.load() : model.play();
        String what = "run " + run + (isSetup ? ": load of " : ": play of ") + text;
        Checks.same(what, got, due);
        Checks.same("the code of " + what, board.errorCode(), model.errorCode());
        Checks.same("the offset of " + what, board.errorOffset(), model.errorOffset());
        outcomes.merge((isSetup ? "load" : "play") + " code " + model.errorCode(), 1, Integer::sum);
        callsLeft -= 7 + (text.length() + 19) / 20;
    }

    private String setup() {
        int lines = 1 + upTo(6);
        StringBuilder text = new StringBuilder("board ").append(lines).append(' ').append(1 + upTo(6)).append(';');
        for (int trunk = upTo(upTo(20) == 0 ? 6 : 5); trunk > 0; trunk--) {
            text.append("trunk ").append(1 + upTo(99)).append(';');
        }
        int users = upTo(20) == 0 ? 17 : 1 + upTo(10);
        for (int user = 0; user < users; user++) {
            text.append("user ").append(userName(user)).append(user / 3 % lines == 0 ? " 0" : " " + user / 3 % lines)
                    .append(' ').append(rings(user)).append(' ').append(upTo(10)).append(';');
        }
        for (int command = upTo(4); command > 0; command--) {
            text.append(command(users, lines));
        }
        return text.toString();
    }

    private String userName(int user) {
        if (upTo(60) == 0) {
            return NAMES[upTo(NAMES.length)];
        }
        return user < NAMES.length ? NAMES[user] : "p" + (char) ('a' + user);
    }

    private String rings(int user) {
        if (upTo(20) == 0) {
            return new String[] {"s", "l", "sls", "lx", "ssssss", "llll"}[upTo(6)];
        }
        String[] first = {"ss", "sl", "l"};
        return first[user % 3] + (user % 18 < 9 ? "s" : "l") + (user % 2 == 0 ? "" : "l");
    }

    private String script(Model board, int commands) {
        StringBuilder text = new StringBuilder();
        int many = upTo(10) == 0 ? 40 : commands;
        for (int command = 0; command < many; command++) {
            text.append(command(board.subscriberCount(), Math.max(1, board.callCount() + 1)));
        }
        return text.toString();
    }

    private String command(int users, int calls) {
        String one = NAMES[upTo(Math.min(NAMES.length, users))];
        String two = NAMES[upTo(Math.min(NAMES.length, users))];
        String urgent = upTo(3) == 0 ? " urgent;" : ";";
        switch (upTo(10)) {
            case 0:
                return "wait " + (upTo(3) == 0 ? 9999 : 1 + upTo(100)) + ";";
            case 1:
                return "mood " + one + " " + upTo(10) + ";";
            case 2:
            case 3:
                return "trunk " + one + " 0" + urgent;
            case 4:
            case 5:
                return "end " + upTo(calls) + ";";
            default:
                return "call " + one + " " + (one.equals(two) ? "dot" : two) + urgent;
        }
    }

    /** Puts in, takes out or exchanges a byte or a token. */
    private String spoil(String text) {
        String[] pieces = {" ", ";", "a", "0", "99999999999", " user ", " call ", " trunk ", " urgent ", "$",
            "" + (char) 200, " end ", "abcdefg", " board "};
        int place = upTo(text.length() + 1);
        int removed = Math.min(text.length() - place, upTo(4));
        String piece = upTo(3) == 0 ? "" : pieces[upTo(pieces.length)];
        return text.substring(0, place) + piece + text.substring(place + removed);
    }

    /** A run that never comes to an error or an exception would hold nothing against the program there. */
    private static void runsReachEverything(TreeMap<String, Integer> outcomes) {
        for (int code = 0; code <= 7; code++) {
            Checks.yes("load comes to code " + code, outcomes.containsKey("load code " + code));
            Checks.yes("play comes to code " + code,
                    outcomes.containsKey("play code " + code) || code == 4 || code == 5);
        }
        String[] thrown = {"call throws java.lang.IllegalStateException", "waitFor throws java.lang.IllegalStateException",
            "end throws java.lang.IllegalStateException", "undo throws java.lang.IllegalStateException",
            "restore throws java.lang.IllegalStateException", "call throws java.lang.IllegalArgumentException"};
        for (String outcome : thrown) {
            Checks.yes("a run comes to " + outcome, outcomes.containsKey(outcome));
        }
        if (Boolean.getBoolean("outcomes")) {
            System.out.println(outcomes);
        }
    }
}
