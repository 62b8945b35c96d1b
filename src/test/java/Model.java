import java.util.ArrayList;
import java.util.List;

/**
 * The document once more, written as slowly and plainly as its words: every day's shares are kept, a
 * dividend keeps a copy of all that was told, and every tax is counted anew from that copy.
 */
final class Model {
    static final int PERSON = 0;
    static final int COMPANY = 1;
    static final int PARTNERSHIP = 2;

    /** All that was told, or a copy of it. */
    private static final class Told {
        final int[][] treaties = new int[6][2];
        final List<int[]> holders = new ArrayList<>();
        final int[][] parts = new int[20][20];
        final int[] shares = new int[20];
        final int[] formDay = new int[20];
        final boolean[] large = new boolean[20];
        int day = 0;

        Told copy() {
            Told copy = new Told();
            for (int i = 0; i < 6; i++) {
                copy.treaties[i] = treaties[i].clone();
            }
            copy.holders.addAll(holders);
            for (int i = 0; i < 20; i++) {
                copy.parts[i] = parts[i].clone();
                copy.shares[i] = shares[i];
                copy.formDay[i] = formDay[i];
                copy.large[i] = large[i];
            }
            copy.day = day;
            return copy;
        }

        boolean valid(int holder, int onDay) {
            return formDay[holder] >= 0 && formDay[holder] <= onDay && onDay <= formDay[holder] + 1080;
        }
    }

    private static final class Paid {
        Told then;
        int cents;
        final long[] refunded = new long[20];
    }

    private final Told now = new Told();
    private final int[][] endShares = new int[20][20001];
    private final List<Paid> paid = new ArrayList<>();

    Model() {
        for (int i = 0; i < 6; i++) {
            now.treaties[i][0] = 30;
            now.treaties[i][1] = 30;
        }
        for (int i = 0; i < 20; i++) {
            now.formDay[i] = -1;
        }
    }

    int setTreaty(int land, int general, int large) {
        argument(land >= 0 && land <= 5 && general >= 0 && general <= 30 && large >= 0 && large <= 30);
        int before = now.treaties[land][0];
        now.treaties[land] = new int[] {general, large};
        return before;
    }

    int addHolder(int kind, int land) {
        argument(kind == PERSON || kind == COMPANY || kind == PARTNERSHIP);
        argument(kind == PARTNERSHIP ? land == -1 : land >= 0 && land <= 5);
        state(now.holders.size() < 20);
        now.holders.add(new int[] {kind, land});
        return now.holders.size() - 1;
    }

    int setParts(int partnership, int member, int parts) {
        holder(partnership);
        holder(member);
        argument(kind(partnership) == PARTNERSHIP && kind(member) != PARTNERSHIP && parts >= 0 && parts <= 100);
        int before = now.parts[partnership][member];
        now.parts[partnership][member] = parts;
        return before;
    }

    int setShares(int holder, int shares) {
        holder(holder);
        argument(shares >= 0 && shares <= 1000000);
        long all = shares;
        for (int i = 0; i < 20; i++) {
            all += i == holder ? 0 : now.shares[i];
        }
        state(all <= 1000000);
        int before = now.shares[holder];
        now.shares[holder] = shares;
        return before;
    }

    int giveForm(int holder) {
        holder(holder);
        now.formDay[holder] = now.day;
        return now.day + 1080;
    }

    int pass(int days) {
        argument(days >= 1 && days <= 2000);
        state(now.day + days <= 20000);
        for (int i = 0; i < days; i++) {
            for (int holder = 0; holder < 20; holder++) {
                endShares[holder][now.day] = now.shares[holder];
            }
            now.day++;
        }
        return now.day;
    }

    int day() {
        return now.day;
    }

    int shares(int holder) {
        holder(holder);
        return now.shares[holder];
    }

    boolean isValid(int holder) {
        holder(holder);
        return now.valid(holder, now.day);
    }

    boolean isLarge(int holder) {
        holder(holder);
        if (kind(holder) != COMPANY || now.shares[holder] < 100000) {
            return false;
        }
        for (int day = now.day - 365; day < now.day; day++) {
            if (day < 0 || endShares[holder][day] < 100000) {
                return false;
            }
        }
        return true;
    }

    int treatyRate(int holder) {
        holder(holder);
        argument(kind(holder) != PARTNERSHIP);
        int[] treaty = now.treaties[now.holders.get(holder)[1]];
        return isLarge(holder) && treaty[1] < treaty[0] ? treaty[1] : treaty[0];
    }

    int pay(int cents) {
        argument(cents >= 1 && cents <= 1000);
        state(paid.size() < 40);
        long all = 0;
        for (int i = 0; i < 20; i++) {
            all += now.shares[i];
        }
        state(all > 0);
        for (int i = 0; i < now.holders.size(); i++) {
            now.large[i] = isLarge(i);
        }
        Paid dividend = new Paid();
        dividend.then = now.copy();
        dividend.cents = cents;
        paid.add(dividend);
        return paid.size() - 1;
    }

    int dividends() {
        return paid.size();
    }

    int gross(int dividend, int holder) {
        both(dividend, holder);
        return paid.get(dividend).then.shares[holder] * paid.get(dividend).cents;
    }

    int held(int dividend, int holder) {
        both(dividend, holder);
        Told then = paid.get(dividend).then;
        boolean[] forms = new boolean[20];
        for (int i = 0; i < 20; i++) {
            forms[i] = then.valid(i, then.day);
        }
        return (int) (tax(dividend, holder, forms) - paid.get(dividend).refunded[holder]);
    }

    int due(int dividend, int holder) {
        both(dividend, holder);
        boolean[] forms = new boolean[20];
        java.util.Arrays.fill(forms, true);
        return (int) tax(dividend, holder, forms);
    }

    long heldInAll() {
        long sum = 0;
        for (int i = 0; i < paid.size(); i++) {
            for (int holder = 0; holder < now.holders.size(); holder++) {
                sum += held(i, holder);
            }
        }
        return sum;
    }

    long refunded() {
        long sum = 0;
        for (Paid dividend : paid) {
            for (long one : dividend.refunded) {
                sum += one;
            }
        }
        return sum;
    }

    int refund(int dividend, int holder) {
        both(dividend, holder);
        Told then = paid.get(dividend).then;
        state(then.shares[holder] > 0);
        state(now.day <= then.day + 60);
        boolean[] forms = new boolean[20];
        for (int i = 0; i < 20; i++) {
            forms[i] = then.valid(i, then.day) || now.valid(i, now.day);
        }
        return giveBack(dividend, holder, tax(dividend, holder, forms));
    }

    int claim(int dividend, int holder) {
        both(dividend, holder);
        Told then = paid.get(dividend).then;
        state(then.shares[holder] > 0);
        state(now.day <= then.day + 1080);
        state(isValid(holder));
        return giveBack(dividend, holder, due(dividend, holder));
    }

    private int giveBack(int dividend, int holder, long tax) {
        long above = held(dividend, holder) - tax;
        if (above <= 0) {
            return 0;
        }
        paid.get(dividend).refunded[holder] += above;
        return (int) above;
    }

    private long tax(int dividend, int holder, boolean[] forms) {
        Told then = paid.get(dividend).then;
        long gross = (long) then.shares[holder] * paid.get(dividend).cents;
        if (gross == 0) {
            return 0;
        }
        if (kind(holder) != PARTNERSHIP) {
            int[] treaty = then.treaties[then.holders.get(holder)[1]];
            int rate = then.large[holder] && treaty[1] < treaty[0] ? treaty[1] : treaty[0];
            return gross * (forms[holder] ? rate : 30) / 100;
        }
        long all = 0;
        int lowest = -1;
        for (int member = 19; member >= 0; member--) {
            all += then.parts[holder][member];
            lowest = then.parts[holder][member] > 0 ? member : lowest;
        }
        if (lowest < 0) {
            return gross * 30 / 100;
        }
        long[] share = new long[20];
        long shared = 0;
        for (int member = 0; member < 20; member++) {
            share[member] = gross * then.parts[holder][member] / all;
            shared += share[member];
        }
        share[lowest] += gross - shared;
        long tax = 0;
        for (int member = 0; member < 20; member++) {
            if (then.parts[holder][member] > 0) {
                int rate = forms[holder] && forms[member] ? then.treaties[then.holders.get(member)[1]][0] : 30;
                tax += share[member] * rate / 100;
            }
        }
        return tax;
    }

    private int kind(int holder) {
        return now.holders.get(holder)[0];
    }

    private void holder(int holder) {
        if (holder < 0 || holder >= now.holders.size()) {
            throw new IndexOutOfBoundsException();
        }
    }

    private void both(int dividend, int holder) {
        if (dividend < 0 || dividend >= paid.size()) {
            throw new IndexOutOfBoundsException();
        }
        holder(holder);
    }

    private static void argument(boolean fits) {
        if (!fits) {
            throw new IllegalArgumentException();
        }
    }

    private static void state(boolean fits) {
        if (!fits) {
            throw new IllegalStateException();
        }
    }
}
