import java.lang.reflect.InvocationTargetException;
import java.lang.reflect.Method;
import java.util.ArrayList;
import java.util.Arrays;
import java.util.List;

/**
 * A run of calls on a new desk, told in words, for one sentence of the document.
 *
 * The steps stand between semicolons: "pay 1 = 0" (the answer that is due), "pay 0 throws Argument" (the exception
 * that is due: Index, Argument or State), "pay 1" (any answer, but no exception), "39x pay 1" (39 times).
 */
final class Run {
    private static final int MOST_CALLS = 512;

    private final String sentence;
    private final DividendDesk desk = new DividendDesk();
    // It is spared the calls that are refused; since these change nothing, it has to answer the same behind them.
    private final DividendDesk spared = new DividendDesk();
    private final List<String> kinds = new ArrayList<>();
    private int calls = 0;

    private Run(String sentence) {
        this.sentence = sentence;
    }

    static void of(String sentence, String... lines) {
        Run run = new Run(sentence);
        for (String step : String.join(";", lines).split(";")) {
            run.take(step.trim().split(" +"));
        }
        run.compareAfterwards();
    }

    private void take(String[] words) {
        int first = words[0].matches("\\d+x") ? 1 : 0;
        int times = first == 0 ? 1 : Integer.parseInt(words[0].substring(0, words[0].length() - 1));
        int end = first + 1;
        while (end < words.length && !words[end].equals("=") && !words[end].equals("throws")) {
            end++;
        }
        String[] call = Arrays.copyOfRange(words, first, end);
        String due = String.join(" ", Arrays.copyOfRange(words, end, words.length));
        for (int i = 0; i < times; i++) {
            ask(call, due);
        }
    }

    private void ask(String[] call, String due) {
        calls++;
        Check.isTrue(sentence + ": a run of at most 512 calls", calls <= MOST_CALLS);
        String got = answer(desk, call);
        boolean isDue = due.isEmpty() ? got.startsWith("=") : got.equals(due);
        Check.isTrue(sentence + ": " + String.join(" ", call) + ": '" + got + "' for '" + due + "'", isDue);
        if (got.startsWith("=")) {
            String same = answer(spared, call);
            Check.isTrue(sentence + ": " + String.join(" ", call) + " is the same without refused calls: '" + got
                    + "' and '" + same + "'", got.equals(same));
        }
        if (got.startsWith("=") && call[0].equals("addHolder")) {
            kinds.add(call[1]);
        }
    }

    private void compare(String name, int... arguments) {
        if (calls >= MOST_CALLS) {
            return;
        }
        calls++;
        String[] call = new String[arguments.length + 1];
        call[0] = name;
        for (int i = 0; i < arguments.length; i++) {
            call[i + 1] = String.valueOf(arguments[i]);
        }
        String got = answer(desk, call);
        String same = answer(spared, call);
        Check.isTrue(sentence + ": afterwards " + String.join(" ", call) + ": '" + got + "' and '" + same
                + "' without refused calls", got.equals(same));
    }

    private void compareAfterwards() {
        compare("day");
        compare("dividends");
        compare("heldInAll");
        compare("refunded");
        compareHolders("shares", "isValid", "isLarge", "treatyRate");
        compareDividend(Math.max(0, desk.dividends() - 1), "gross", "held", "due");
        compareDividend(0, "gross", "held", "due");
        comparePartnerships();
        for (int land = 0; land < 6; land++) {
            compare("setTreaty", land, land + 3, land);
        }
        compare("addHolder", DividendDesk.COMPANY, 1);
        // Shares for those that had none, so that the last dividend tells all parts and treaties.
        for (int holder = 0; holder < kinds.size(); holder++) {
            compare("setShares", holder, 100 + holder);
        }
        compare("pay", 333);
        compareDividend(Math.max(0, desk.dividends() - 1), "due", "refund", "claim");
        for (int day = 0; day < 3; day++) {
            compare("pass", 1);
            compareHolders("isValid", "isLarge", "treatyRate");
        }
        compare("heldInAll");
        compare("refunded");
    }

    private void compareHolders(String... names) {
        for (int holder = 0; holder < kinds.size(); holder++) {
            for (String name : names) {
                compare(name, holder);
            }
        }
    }

    private void compareDividend(int dividend, String... names) {
        for (String name : names) {
            for (int holder = 0; holder < kinds.size(); holder++) {
                compare(name, dividend, holder);
            }
        }
    }

    private void comparePartnerships() {
        for (int holder = 0; holder < kinds.size(); holder++) {
            for (int member = 0; member < kinds.size() && kinds.get(holder).equals("PARTNERSHIP"); member++) {
                compare("setParts", holder, member, 1);
            }
        }
    }

    private static String answer(DividendDesk asked, String[] call) {
        Object[] arguments = new Object[call.length - 1];
        for (int i = 0; i < arguments.length; i++) {
            arguments[i] = number(call[i + 1]);
        }
        try {
            return "= " + method(call[0]).invoke(asked, arguments);
        } catch (InvocationTargetException e) {
            return "throws " + shortName(e.getCause());
        } catch (IllegalAccessException e) {
            throw new IllegalStateException(e);
        }
    }

    private static int number(String word) {
        switch (word) {
            case "NONE": return DividendDesk.NONE;
            case "PERSON": return DividendDesk.PERSON;
            case "COMPANY": return DividendDesk.COMPANY;
            case "PARTNERSHIP": return DividendDesk.PARTNERSHIP;
            case "MIN": return Integer.MIN_VALUE;
            case "MAX": return Integer.MAX_VALUE;
            default: return Integer.parseInt(word);
        }
    }

    private static Method method(String name) {
        for (Method method : DividendDesk.class.getMethods()) {
            if (method.getName().equals(name)) {
                return method;
            }
        }
        throw new IllegalStateException("no call " + name);
    }

    private static String shortName(Throwable thrown) {
        boolean isOfTheDesk = thrown instanceof RuntimeException && Check.isOfTheDesk((RuntimeException) thrown);
        String name = thrown.getClass().getSimpleName();
        switch (isOfTheDesk ? name : "") {
            case "IndexOutOfBoundsException": return "Index";
            case "IllegalArgumentException": return "Argument";
            case "IllegalStateException": return "State";
            default: return name + " of the machine, the library or no kind of the document";
        }
    }
}
