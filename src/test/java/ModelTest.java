import java.util.Arrays;

/** Runs of 512 drawn calls on a desk and on the model: the answers and exceptions have to be the same. */
public final class ModelTest {
    private static final int RUNS = 3000;
    private static final int CALLS = 512;
    private static final int CALL_KINDS = 20;
    private static final int[] OFTEN = {0, 2, 2, 2, 3, 3, 3, 4, 4, 5, 5, 8, 9, 10, 11, 11, 13, 14, 14, 15, 16, 17,
        18, 18, 18, 18, 18, 18, 19, 19, 19, 19, 19, 19};
    private static final int[] DAYS = {1, 1, 1, 1, 1, 1, 1, 2, 2, 2, 2, 5, 7, 7, 20, 29, 29, 30, 30, 59, 60, 61, 100,
        364, 365, 366, 1079, 1080, 1081, 2000};
    private static final int[] SHARES = {0, 1, 7, 11, 99, 101, 1000, 1001, 33333, 99999, 100000, 100000, 100000,
        100001, 100001, 150000};
    private static final int[] PARTS = {0, 0, 1, 1, 2, 3, 7, 50, 99, 100};
    private static final int[] CENTS = {1, 2, 3, 10, 99, 333, 999, 1000};
    private static final int[] ODD = {Integer.MIN_VALUE, -2, -1, 0, 3, 6, 20, 31, 40, 101, 1001, 2001, 1000001,
        Integer.MAX_VALUE};

    private static long seed = 20261119;
    private static final long[] telling = new long[CALL_KINDS];
    private static final long[] thrown = new long[CALL_KINDS];

    public static void main(String[] args) {
        for (int run = 0; run < RUNS; run++) {
            compareRun(run, run % 10 == 0 ? 4 : 64);
        }
        for (int call = 0; call < CALL_KINDS; call++) {
            Check.isTrue("runs had telling answers of call " + call + ": " + telling[call], telling[call] > 1000);
        }
        System.out.println("telling answers a call: " + Arrays.toString(telling));
        System.out.println("exceptions a call: " + Arrays.toString(thrown));
        Check.end("ModelTest");
    }

    /** Numbers that are drawn by a rule, so that every run of this test is the same. */
    private static int draw(int bound) {
        seed = seed * 6364136223846793005L + 1442695040888963407L;
        return (int) Math.floorMod(seed >>> 33, (long) bound);
    }

    private static int oneOf(int[] numbers) {
        return numbers[draw(numbers.length)];
    }

    private static void compareRun(int run, int oddOneIn) {
        DividendDesk desk = new DividendDesk();
        Model model = new Model();
        int[] kinds = new int[20];
        int holders = 2 + draw(19);
        int holderCount = 0;
        int holder = 0;
        for (int i = 0; i < CALLS; i++) {
            boolean isStart = holderCount < holders && i < 3 * holders;
            int call = isStart ? 1 : draw(4) == 0 ? draw(CALL_KINDS) : oneOf(OFTEN);
            // The same holder often comes again, so that forms, shares, dividends and refunds meet.
            holder = draw(3) > 0 ? holder : draw(Math.max(1, holderCount));
            int[] arguments = argumentsOf(call, kinds, holder, Math.max(1, holderCount), model.dividends());
            if (call == 5 && run % 2 == 1) {
                // Quick refunds need runs in which less time passes.
                arguments[0] = 1 + arguments[0] % 8;
            }
            for (int k = 0; k < 3; k++) {
                arguments[k] = draw(oddOneIn) == 0 ? oneOf(ODD) : arguments[k];
            }
            Object want = answer(call, arguments, null, model);
            Object got = answer(call, arguments, desk, null);
            if (want instanceof Class) {
                thrown[call]++;
            } else if (!want.equals(0L)) {
                telling[call]++;
            }
            if (call == 1 && want instanceof Long) {
                kinds[holderCount] = arguments[0];
                holderCount++;
            }
            Check.isTrue("run " + run + " call " + i + ": call " + call + " of " + Arrays.toString(arguments)
                    + " answered " + got + ", the model " + want, got.equals(want));
            if (!got.equals(want)) {
                return;
            }
        }
    }

    private static int[] argumentsOf(int call, int[] kinds, int holder, int holders, int dividends) {
        // The last dividends can still be refunded, so most calls ask for them.
        int dividend = draw(4) == 0 ? draw(40) : Math.max(0, dividends - 1 - draw(4));
        switch (call) {
            case 0: return new int[] {draw(6), draw(31), draw(31)};
            case 1: {
                int kind = draw(3);
                return new int[] {kind, kind == DividendDesk.PARTNERSHIP ? -1 : draw(6), 0};
            }
            case 2: return new int[] {holderOf(kinds, holders, true), holderOf(kinds, holders, false), oneOf(PARTS)};
            case 3: return new int[] {holder, draw(4) == 0 ? draw(200000) : oneOf(SHARES), 0};
            case 5: return new int[] {oneOf(DAYS), 0, 0};
            case 11: return new int[] {draw(2) == 0 ? 1 + draw(1000) : oneOf(CENTS), 0, 0};
            case 13: case 14: case 15: case 18: case 19: return new int[] {dividend, holder, 0};
            default: return new int[] {holder, 0, 0};
        }
    }

    /** Some partnership, or some other holder; any holder where a few draws do not find one. */
    private static int holderOf(int[] kinds, int holders, boolean isPartnership) {
        int holder = draw(holders);
        for (int i = 0; i < 10 && (kinds[holder] == DividendDesk.PARTNERSHIP) != isPartnership; i++) {
            holder = draw(holders);
        }
        return holder;
    }

    /** The answer as a Long, or the class of the exception; of the desk, or of the model where that is null. */
    private static Object answer(int call, int[] a, DividendDesk desk, Model model) {
        try {
            return desk != null ? ofDesk(call, a, desk) : ofModel(call, a, model);
        } catch (RuntimeException e) {
            boolean isThrown = desk == null || Check.isOfTheDesk(e);
            return isThrown ? e.getClass() : "an exception of the machine or the library";
        }
    }

    private static long ofDesk(int call, int[] a, DividendDesk x) {
        switch (call) {
            case 0: return x.setTreaty(a[0], a[1], a[2]);
            case 1: return x.addHolder(a[0], a[1]);
            case 2: return x.setParts(a[0], a[1], a[2]);
            case 3: return x.setShares(a[0], a[1]);
            case 4: return x.giveForm(a[0]);
            case 5: return x.pass(a[0]);
            case 6: return x.day();
            case 7: return x.shares(a[0]);
            case 8: return x.isValid(a[0]) ? 1 : 0;
            case 9: return x.isLarge(a[0]) ? 1 : 0;
            case 10: return x.treatyRate(a[0]);
            case 11: return x.pay(a[0]);
            case 12: return x.dividends();
            case 13: return x.gross(a[0], a[1]);
            case 14: return x.held(a[0], a[1]);
            case 15: return x.due(a[0], a[1]);
            case 16: return x.heldInAll();
            case 17: return x.refunded();
            case 18: return x.refund(a[0], a[1]);
            default: return x.claim(a[0], a[1]);
        }
    }

    private static long ofModel(int call, int[] a, Model x) {
        switch (call) {
            case 0: return x.setTreaty(a[0], a[1], a[2]);
            case 1: return x.addHolder(a[0], a[1]);
            case 2: return x.setParts(a[0], a[1], a[2]);
            case 3: return x.setShares(a[0], a[1]);
            case 4: return x.giveForm(a[0]);
            case 5: return x.pass(a[0]);
            case 6: return x.day();
            case 7: return x.shares(a[0]);
            case 8: return x.isValid(a[0]) ? 1 : 0;
            case 9: return x.isLarge(a[0]) ? 1 : 0;
            case 10: return x.treatyRate(a[0]);
            case 11: return x.pay(a[0]);
            case 12: return x.dividends();
            case 13: return x.gross(a[0], a[1]);
            case 14: return x.held(a[0], a[1]);
            case 15: return x.due(a[0], a[1]);
            case 16: return x.heldInAll();
            case 17: return x.refunded();
            case 18: return x.refund(a[0], a[1]);
            default: return x.claim(a[0], a[1]);
        }
    }
}
