import java.util.function.Supplier;

/** What the project's tests share: comparing answers, counting the wrong ones, writing texts. */
final class Check {
    private static int wrong = 0;
    private static int asked = 0;

    private Check() {
    }

    /** The answer of a call as text: its value, or throws. and the exception's name. */
    static String answer(Supplier<Object> call) {
        try {
            return String.valueOf(call.get());
        } catch (RuntimeException e) {
            return "throws." + e.getClass().getSimpleName();
        }
    }

    static void due(String what, Object want, Supplier<Object> call) {
        asked++;
        String got = answer(call);
        if (!got.equals(String.valueOf(want))) {
            wrong++;
            System.out.println(what + " answered " + got + ", due is " + want);
        }
    }

    static void refusedArgument(String what, Supplier<Object> call) {
        due(what, "throws.IllegalArgumentException", call);
    }

    static void refusedState(String what, Supplier<Object> call) {
        due(what, "throws.IllegalStateException", call);
    }

    static void write(PartsDesk desk, String text) {
        for (int i = 0; i < text.length(); i++) {
            char c = text.charAt(i);
            due("write of '" + c + "' in " + text, true, () -> desk.write(c));
        }
    }

    /** Says 'above' and 'below' on a new object; both must be right. */
    static PartsDesk desk(String above, String below) {
        PartsDesk desk = new PartsDesk();
        write(desk, above);
        desk.numerator();
        write(desk, below);
        desk.denominator();
        return desk;
    }

    static String part(PartsDesk desk, int root, int k) {
        return answer(() -> desk.part(root, k, 0)) + "/" + answer(() -> desk.part(root, k, 1));
    }

    static String integral(PartsDesk desk, int root, int k) {
        return answer(() -> desk.integral(root, k, 0)) + "/" + answer(() -> desk.integral(root, k, 1));
    }

    static String value(PartsDesk desk, int t) {
        return answer(() -> desk.value(t, 0)) + "/" + answer(() -> desk.value(t, 1));
    }

    static String coefficients(PartsDesk desk, int of) {
        StringBuilder text = new StringBuilder();
        for (int i = 0; i <= 6; i++) {
            text.append(i == 0 ? "" : " ").append(desk.coefficient(of, i));
        }
        return text.toString();
    }

    static String roots(PartsDesk desk) {
        StringBuilder text = new StringBuilder();
        for (int root = -3; root <= 3; root++) {
            text.append(desk.many(root));
        }
        return text.toString();
    }

    /** All that an object tells of its function, in at most 84 calls; the draft is left alone. */
    static String told(PartsDesk desk) {
        StringBuilder text = new StringBuilder(roots(desk));
        for (int of = 0; of <= 2; of++) {
            text.append(" | ").append(coefficients(desk, of));
        }
        for (int root = -3; root <= 3; root++) {
            int many = desk.many(root);
            for (int k = 1; k <= many; k++) {
                text.append(" | ").append(part(desk, root, k)).append(' ').append(integral(desk, root, k - 1));
            }
        }
        for (int k = 1; k <= 8; k++) {
            text.append(" | ").append(integral(desk, 9, k));
        }
        for (int t : new int[] {-20, -4, 4, 20}) {
            text.append(" | ").append(value(desk, t));
        }
        return text.append(" | ").append(desk.at(0.5)).append(' ').append(desk.byParts(0.5)).toString();
    }

    /** The call is refused for its arguments, and the function is the same before and after it. */
    static void refusedAndKept(String what, PartsDesk desk, Supplier<Object> call) {
        String before = told(desk);
        refusedArgument(what, call);
        due("the function after " + what, before, () -> told(desk));
    }

    /** Ends the test: exit code 1 when an answer was wrong. */
    static void end() {
        System.out.println(wrong == 0 ? asked + " answers are as due" : wrong + " of " + asked + " answers are wrong");
        if (wrong != 0) {
            System.exit(1);
        }
    }
}
