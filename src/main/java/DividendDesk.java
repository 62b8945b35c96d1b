import java.util.ArrayList;

/** A withholding desk on the dividends of a company, as ../shared/DOC.md promises it. */
public final class DividendDesk {
    public static final int NONE = -1;
    public static final int PERSON = 0, COMPANY = 1, PARTNERSHIP = 2;

    private static final int LANDS = 6;
    private static final int FULL_RATE = 30;
    private static final int MOST_HOLDERS = 20;
    private static final int MOST_PARTS = 100;
    private static final int ALL_SHARES = 1000000;
    private static final int LARGE_SHARES = 100000;
    private static final int LARGE_DAYS = 365;
    private static final int FORM_DAYS = 1080;
    private static final int MOST_DAYS_AT_ONCE = 2000;
    private static final int LAST_DAY = 20000;
    private static final int MOST_DIVIDENDS = 40;
    private static final int MOST_CENTS = 1000;
    private static final int REFUND_DAYS = 60;
    private static final int CLAIM_DAYS = 1080;

    // Sets of forms are masks with a bit for each holder's number.
    private static final int NO_FORMS = 0;
    private static final int ALL_FORMS = -1;

    private final int[] generalRates = new int[LANDS];
    private final int[] largeRates = new int[LANDS];
    private final ArrayList<Holder> holders = new ArrayList<>();
    private final ArrayList<Dividend> paidDividends = new ArrayList<>();
    private int today = 0;
    private long refundedInAll = 0;

    public DividendDesk() {
        for (int land = 0; land < LANDS; land++) {
            generalRates[land] = FULL_RATE;
            largeRates[land] = FULL_RATE;
        }
    }

    // ---- treaties and holders

    public int setTreaty(int land, int general, int large) throws IllegalArgumentException {
        if (!isLand(land) || !isWithin(general, 0, FULL_RATE) || !isWithin(large, 0, FULL_RATE)) {
            throw new IllegalArgumentException("no such land or rate");
        }
        int before = generalRates[land];
        generalRates[land] = general;
        largeRates[land] = large;
        return before;
    }

    public int addHolder(int kind, int land) throws IllegalArgumentException, IllegalStateException {
        if (!isWithin(kind, PERSON, PARTNERSHIP)) {
            throw new IllegalArgumentException("no such kind");
        }
        if (kind == PARTNERSHIP ? land != NONE : !isLand(land)) {
            throw new IllegalArgumentException("land does not fit the kind");
        }
        if (holders.size() >= MOST_HOLDERS) {
            throw new IllegalStateException("no more holders");
        }
        holders.add(new Holder(kind, land));
        return holders.size() - 1;
    }

    public int setParts(int partnership, int member, int parts)
            throws IndexOutOfBoundsException, IllegalArgumentException {
        Holder whole = holderAt(partnership);
        Holder part = holderAt(member);
        if (whole.kind != PARTNERSHIP || part.kind == PARTNERSHIP || !isWithin(parts, 0, MOST_PARTS)) {
            throw new IllegalArgumentException("no such membership or parts");
        }
        int before = whole.partsOf(member);
        whole.changeParts(member, parts);
        return before;
    }

    public int setShares(int holder, int shares)
            throws IndexOutOfBoundsException, IllegalArgumentException, IllegalStateException {
        Holder changed = holderAt(holder);
        if (!isWithin(shares, 0, ALL_SHARES)) {
            throw new IllegalArgumentException("no such number of shares");
        }
        int before = changed.shares;
        if (sharesInAll() - before + shares > ALL_SHARES) {
            throw new IllegalStateException("more shares than there are");
        }
        changed.shares = shares;
        return before;
    }

    public int giveForm(int holder) throws IndexOutOfBoundsException {
        Holder giver = holderAt(holder);
        giver.formEnd = today + FORM_DAYS;
        return giver.formEnd;
    }

    public int pass(int days) throws IllegalArgumentException, IllegalStateException {
        if (!isWithin(days, 1, MOST_DAYS_AT_ONCE)) {
            throw new IllegalArgumentException("no such number of days");
        }
        if (today + days > LAST_DAY) {
            throw new IllegalStateException("beyond the last day");
        }
        for (int i = 0; i < holders.size(); i++) {
            holders.get(i).endDay(today);
        }
        today += days;
        return today;
    }

    public int day() {
        return today;
    }

    public int shares(int holder) throws IndexOutOfBoundsException {
        return holderAt(holder).shares;
    }

    public boolean isValid(int holder) throws IndexOutOfBoundsException {
        return holderAt(holder).hasFormOn(today);
    }

    public boolean isLarge(int holder) throws IndexOutOfBoundsException {
        return holderAt(holder).hasLargeHoldingOn(today);
    }

    public int treatyRate(int holder) throws IndexOutOfBoundsException, IllegalArgumentException {
        Holder asked = holderAt(holder);
        if (asked.kind == PARTNERSHIP) {
            throw new IllegalArgumentException("a partnership has no treaty");
        }
        return ownRate(asked);
    }

    // ---- dividends

    public int pay(int cents) throws IllegalArgumentException, IllegalStateException {
        if (!isWithin(cents, 1, MOST_CENTS)) {
            throw new IllegalArgumentException("no such number of cents");
        }
        if (paidDividends.size() >= MOST_DIVIDENDS || sharesInAll() == 0) {
            throw new IllegalStateException("no more dividends, or nobody to pay");
        }
        Dividend dividend = new Dividend(today, validForms());
        for (int i = 0; i < holders.size(); i++) {
            if (holders.get(i).shares > 0) {
                dividend.enter(i, makePayment(i, holders.get(i), cents));
            }
        }
        paidDividends.add(dividend);
        return paidDividends.size() - 1;
    }

    public int dividends() {
        return paidDividends.size();
    }

    public int gross(int dividend, int holder) throws IndexOutOfBoundsException {
        Payment payment = paymentAt(dividend, holder);
        return payment == null ? 0 : payment.amount;
    }

    public int held(int dividend, int holder) throws IndexOutOfBoundsException {
        Payment payment = paymentAt(dividend, holder);
        return payment == null ? 0 : payment.heldTax;
    }

    public int due(int dividend, int holder) throws IndexOutOfBoundsException {
        Payment payment = paymentAt(dividend, holder);
        return payment == null ? 0 : payment.taxWith(ALL_FORMS);
    }

    public long heldInAll() {
        long sum = 0;
        for (int i = 0; i < paidDividends.size(); i++) {
            sum += paidDividends.get(i).heldOfAll();
        }
        return sum;
    }

    public long refunded() {
        return refundedInAll;
    }

    // ---- refunds

    public int refund(int dividend, int holder) throws IndexOutOfBoundsException, IllegalStateException {
        Payment payment = refundablePayment(dividend, holder, REFUND_DAYS);
        int formsOnPayDay = dividendAt(dividend).formsOnPayDay;
        return giveBack(payment, payment.taxWith(formsOnPayDay | validForms()));
    }

    public int claim(int dividend, int holder) throws IndexOutOfBoundsException, IllegalStateException {
        Payment payment = refundablePayment(dividend, holder, CLAIM_DAYS);
        if (!holderAt(holder).hasFormOn(today)) {
            throw new IllegalStateException("no valid form");
        }
        return giveBack(payment, payment.taxWith(ALL_FORMS));
    }

    // ---- what the calls above share

    private static boolean isWithin(int number, int least, int most) {
        return number >= least && number <= most;
    }

    private static boolean isLand(int land) {
        return isWithin(land, 0, LANDS - 1);
    }

    private boolean isHolder(int holder) {
        return isWithin(holder, 0, holders.size() - 1);
    }

    private Holder holderAt(int holder) {
        if (!isHolder(holder)) {
            throw new IndexOutOfBoundsException("no such holder");
        }
        return holders.get(holder);
    }

    private Dividend dividendAt(int dividend) {
        if (!isWithin(dividend, 0, paidDividends.size() - 1)) {
            throw new IndexOutOfBoundsException("no such dividend");
        }
        return paidDividends.get(dividend);
    }

    /** Null where the holder is there, but had no shares when the dividend was paid. */
    private Payment paymentAt(int dividend, int holder) {
        Dividend paid = dividendAt(dividend);
        if (!isHolder(holder)) {
            throw new IndexOutOfBoundsException("no such holder");
        }
        return paid.paymentTo(holder);
    }

    private Payment refundablePayment(int dividend, int holder, int days) {
        Payment payment = paymentAt(dividend, holder);
        if (payment == null || today - dividendAt(dividend).payDay > days) {
            throw new IllegalStateException("no shares on the pay day, or too late");
        }
        return payment;
    }

    private int sharesInAll() {
        int sum = 0;
        for (int i = 0; i < holders.size(); i++) {
            sum += holders.get(i).shares;
        }
        return sum;
    }

    private static int formOf(int holder) {
        return 1 << holder;
    }

    private int validForms() {
        int forms = NO_FORMS;
        for (int i = 0; i < holders.size(); i++) {
            if (holders.get(i).hasFormOn(today)) {
                forms |= formOf(i);
            }
        }
        return forms;
    }

    private static int rateOf(int[] rates, Holder holder) {
        return isLand(holder.land) && holder.land < rates.length ? rates[holder.land] : FULL_RATE;
    }

    private int ownRate(Holder holder) {
        int general = rateOf(generalRates, holder);
        if (!holder.hasLargeHoldingOn(today)) {
            return general;
        }
        return Math.min(general, rateOf(largeRates, holder));
    }

    private Payment makePayment(int number, Holder holder, int cents) {
        Payment payment = new Payment(holder.shares * cents);
        if (holder.kind == PARTNERSHIP) {
            addPortions(payment, number, holder);
        } else {
            payment.add(new Portion(payment.amount, ownRate(holder), formOf(number)));
        }
        return payment;
    }

    private void addPortions(Payment payment, int number, Holder partnership) {
        int all = partnership.partsInAll();
        if (all == 0) {
            payment.add(new Portion(payment.amount, FULL_RATE, NO_FORMS));
            return;
        }
        int left = payment.amount;
        for (int i = 0; i < holders.size(); i++) {
            left -= proportion(payment.amount, partnership.partsOf(i), all);
        }
        for (int i = 0; i < holders.size(); i++) {
            int parts = partnership.partsOf(i);
            if (parts > 0) {
                int amount = proportion(payment.amount, parts, all) + left;
                left = 0;
                // What a member holds itself does not matter here: the general rate, even if its own holding is large.
                int rate = rateOf(generalRates, holders.get(i));
                payment.add(new Portion(amount, rate, formOf(number) | formOf(i)));
            }
        }
    }

    private static int proportion(int amount, int parts, int all) {
        return all == 0 ? 0 : (int) ((long) amount * parts / all);
    }

    private int giveBack(Payment payment, int tax) {
        int above = payment.lowerTo(tax);
        refundedInAll += above;
        return above;
    }

    private static final class Holder {
        private final int kind;
        private final int land;
        // The parts of this partnership's members, by their numbers.
        private final int[] memberParts = new int[MOST_HOLDERS];
        private int shares = 0;
        private int formEnd = NONE;
        // The first of the days on end whose last shares were enough for a large holding.
        private int enoughSince = NONE;

        private Holder(int kind, int land) {
            this.kind = kind;
            this.land = land;
        }

        private int partsOf(int member) {
            return member >= 0 && member < memberParts.length ? memberParts[member] : 0;
        }

        private void changeParts(int member, int parts) {
            if (member >= 0 && member < memberParts.length) {
                memberParts[member] = parts;
            }
        }

        private int partsInAll() {
            int sum = 0;
            for (int i = 0; i < memberParts.length; i++) {
                sum += memberParts[i];
            }
            return sum;
        }

        private boolean hasFormOn(int today) {
            return today <= formEnd;
        }

        private void endDay(int today) {
            if (shares < LARGE_SHARES) {
                enoughSince = NONE;
            } else if (enoughSince == NONE) {
                enoughSince = today;
            }
        }

        // Today's shares are those of now, since a day is noted only when it ends.
        private boolean hasLargeHoldingOn(int today) {
            return kind == COMPANY && shares >= LARGE_SHARES
                    && enoughSince != NONE && today - enoughSince >= LARGE_DAYS;
        }
    }

    private static final class Dividend {
        private final int payDay;
        private final int formsOnPayDay;
        // By the holder's number; null for a holder without shares.
        private final Payment[] payments = new Payment[MOST_HOLDERS];

        private Dividend(int payDay, int formsOnPayDay) {
            this.payDay = payDay;
            this.formsOnPayDay = formsOnPayDay;
        }

        private void enter(int holder, Payment payment) {
            if (holder >= 0 && holder < payments.length) {
                payment.heldTax = payment.taxWith(formsOnPayDay);
                payments[holder] = payment;
            }
        }

        private Payment paymentTo(int holder) {
            return holder >= 0 && holder < payments.length ? payments[holder] : null;
        }

        private long heldOfAll() {
            long sum = 0;
            for (int i = 0; i < payments.length; i++) {
                Payment payment = payments[i];
                if (payment != null) {
                    sum += payment.heldTax;
                }
            }
            return sum;
        }
    }

    /** What a holder got of a dividend, in the portions that are taxed each by itself. */
    private static final class Payment {
        private final int amount;
        private final ArrayList<Portion> portions = new ArrayList<>();
        private int heldTax = 0;

        private Payment(int amount) {
            this.amount = amount;
        }

        private void add(Portion portion) {
            portions.add(portion);
        }

        private int taxWith(int forms) {
            int sum = 0;
            for (int i = 0; i < portions.size(); i++) {
                sum += portions.get(i).tax(forms);
            }
            return sum;
        }

        private int lowerTo(int tax) {
            int above = Math.max(heldTax - tax, 0);
            heldTax -= above;
            return above;
        }
    }

    private static final class Portion {
        private final int amount;
        private final int rate;
        // The full rate stands in for the rate unless all of these forms are valid.
        private final int neededForms;

        private Portion(int amount, int rate, int neededForms) {
            this.amount = amount;
            this.rate = rate;
            this.neededForms = neededForms;
        }

        private int tax(int forms) {
            int applied = (neededForms & forms) == neededForms ? rate : FULL_RATE;
            return (int) ((long) amount * applied / 100);
        }
    }
}
