/** Promises 13 to 19: dividends, what is held of them and what is due. */
public final class DividendsTest {
    private static final int NONE = DividendDesk.NONE;
    private static final int PERSON = DividendDesk.PERSON;
    private static final int COMPANY = DividendDesk.COMPANY;
    private static final int PARTNERSHIP = DividendDesk.PARTNERSHIP;

    public static void main(String[] args) {
        promise13Pay();
        promise14Dividends();
        promise15Gross();
        promise16HeldOfPersonsAndCompanies();
        promise16HeldOfPartnerships();
        promise16HeldRoundsEachShare();
        promise16HeldByTheFirstAndLastMember();
        promise17Due();
        promise17DueStaysAsPaid();
        promises18And19Sums();
        Check.end("DividendsTest");
    }

    /** A partnership 0 with the members 1 (land 1, 3 parts), 2 (land 2, 2 parts) and 3 (land 3, 2 parts). */
    static DividendDesk deskWithPartnership() {
        DividendDesk desk = new DividendDesk();
        desk.setTreaty(1, 10, 5);
        desk.setTreaty(2, 20, 5);
        desk.setTreaty(3, 0, 0);
        desk.addHolder(PARTNERSHIP, NONE);
        desk.addHolder(PERSON, 1);
        desk.addHolder(COMPANY, 2);
        desk.addHolder(PERSON, 3);
        desk.setParts(0, 1, 3);
        desk.setParts(0, 2, 2);
        desk.setParts(0, 3, 2);
        return desk;
    }

    private static void promise13Pay() {
        DividendDesk desk = new DividendDesk();
        Check.state("nobody is there", () -> desk.pay(1));
        desk.addHolder(PERSON, 0);
        Check.state("nobody has shares", () -> desk.pay(1));
        desk.setShares(0, 3);
        Check.argument("0 cents", () -> desk.pay(0));
        Check.argument("-1 cents", () -> desk.pay(-1));
        Check.argument("1001 cents", () -> desk.pay(1001));
        Check.equal("a thrown pay changed nothing", desk.dividends(), 0);
        Check.equal("first", desk.pay(1), 0);
        Check.equal("second on the same day", desk.pay(1000), 1);
        for (int i = 2; i < 40; i++) {
            Check.equal("next", desk.pay(i), i);
        }
        Check.state("a 41st", () -> desk.pay(1));
        Check.argument("the argument is looked at first", () -> desk.pay(0));
        Check.equal("there are 40", desk.dividends(), 40);
        Check.equal("gross of the first", desk.gross(0, 0), 3);
        Check.equal("gross of the second", desk.gross(1, 0), 3000);
        Check.equal("gross of the last", desk.gross(39, 0), 117);
    }

    private static void promise14Dividends() {
        DividendDesk desk = new DividendDesk();
        desk.addHolder(PERSON, 0);
        desk.setShares(0, 1);
        Check.equal("none", desk.dividends(), 0);
        desk.pay(1);
        Check.equal("one", desk.dividends(), 1);
        desk.pass(1);
        desk.pay(1);
        Check.equal("two", desk.dividends(), 2);
    }

    private static void promise15Gross() {
        DividendDesk desk = new DividendDesk();
        desk.addHolder(PERSON, 0);
        Check.index("no dividend", () -> desk.gross(0, 0));
        desk.addHolder(PARTNERSHIP, NONE);
        desk.addHolder(COMPANY, 0);
        desk.setShares(0, 7);
        desk.setShares(1, 999993);
        desk.pay(1000);
        desk.addHolder(PERSON, 0);
        Check.equal("a person's", desk.gross(0, 0), 7000);
        Check.equal("a partnership's", desk.gross(0, 1), 999993000);
        Check.equal("without shares", desk.gross(0, 2), 0);
        Check.equal("of one that came later", desk.gross(0, 3), 0);
        desk.setShares(0, 6);
        Check.equal("shares of the pay day count", desk.gross(0, 0), 7000);
        Check.index("dividend -1", () -> desk.gross(-1, 0));
        Check.index("dividend 1", () -> desk.gross(1, 0));
        Check.index("holder -1", () -> desk.gross(0, -1));
        Check.index("holder 4", () -> desk.gross(0, 4));
    }

    private static void promise16HeldOfPersonsAndCompanies() {
        DividendDesk desk = new DividendDesk();
        desk.setTreaty(1, 15, 5);
        desk.addHolder(PERSON, 1);
        desk.addHolder(COMPANY, 1);
        desk.addHolder(PERSON, 1);
        desk.addHolder(PERSON, 1);
        Check.index("no dividend", () -> desk.held(0, 0));
        desk.setShares(0, 33);
        desk.setShares(1, 100000);
        desk.setShares(2, 33);
        desk.pass(365);
        desk.giveForm(0);
        desk.giveForm(1);
        desk.pay(1);
        Check.equal("with a form, rounded down", desk.held(0, 0), 4);
        Check.equal("a large holding", desk.held(0, 1), 5000);
        Check.equal("without a form", desk.held(0, 2), 9);
        Check.equal("without shares", desk.held(0, 3), 0);
        desk.addHolder(PERSON, 1);
        Check.equal("of one that came later", desk.held(0, 4), 0);
        desk.pass(1080);
        desk.pay(1);
        desk.pass(1);
        desk.pay(1);
        Check.equal("with a form on its last day", desk.held(1, 1), 5000);
        Check.equal("with a form that has lapsed", desk.held(2, 1), 30000);
        Check.equal("a person whose form has lapsed", desk.held(2, 0), 9);
        Check.index("dividend -1", () -> desk.held(-1, 0));
        Check.index("dividend 3", () -> desk.held(3, 0));
        Check.index("holder -1", () -> desk.held(0, -1));
        Check.index("holder 5", () -> desk.held(0, 5));
    }

    private static void promise16HeldOfPartnerships() {
        DividendDesk desk = deskWithPartnership();
        desk.setShares(0, 7);
        desk.setShares(2, 100000);
        desk.pass(400);
        Check.isTrue("the member has a large holding itself", desk.isLarge(2));
        desk.giveForm(1);
        desk.giveForm(2);
        desk.giveForm(3);
        desk.pay(100);
        Check.equal("without its form", desk.held(0, 0), 210);
        desk.giveForm(0);
        desk.pay(100);
        Check.equal("with all forms", desk.held(1, 0), 30 + 40);
        Check.equal("the member's own", desk.held(1, 2), 500000);
        desk.setParts(0, 1, 0);
        desk.pay(100);
        Check.equal("without the first member", desk.held(2, 0), 70);
        desk.setParts(0, 2, 0);
        desk.setParts(0, 3, 0);
        desk.pay(100);
        Check.equal("without members", desk.held(3, 0), 210);
        desk.setParts(0, 3, 1);
        desk.pay(100);
        Check.equal("with one member", desk.held(4, 0), 0);
    }

    private static void promise16HeldRoundsEachShare() {
        DividendDesk desk = deskWithPartnership();
        desk.setShares(0, 1);
        desk.pay(100);
        // 100 by 3, 2 and 2 of 7: 42, 28 and 28, and the 2 that are left go to the first.
        Check.equal("each share by the full rate", desk.held(0, 0), 13 + 8 + 8);
        desk.giveForm(0);
        desk.giveForm(2);
        desk.pay(100);
        Check.equal("forms of two of them", desk.held(1, 0), 13 + 5 + 8);
        desk.setParts(0, 1, 0);
        desk.setParts(0, 3, 1);
        desk.pay(100);
        // 66 and 33, and the 1 that is left goes to the member 2.
        Check.equal("what is left goes to the first with parts", desk.held(2, 0), 13 + 9);
        desk.setShares(0, 1000000);
        desk.setParts(0, 3, 100);
        desk.setParts(0, 2, 100);
        desk.pay(1000);
        Check.equal("the largest amounts", desk.held(3, 0), 100000000 + 150000000);
    }

    private static void promise16HeldByTheFirstAndLastMember() {
        DividendDesk desk = new DividendDesk();
        desk.setTreaty(0, 0, 0);
        desk.addHolder(PERSON, 0);
        for (int i = 1; i < 19; i++) {
            desk.addHolder(PARTNERSHIP, NONE);
        }
        desk.addHolder(COMPANY, 1);
        Check.equal("parts of the first", desk.setParts(18, 0, 1), 0);
        Check.equal("parts of the last", desk.setParts(18, 19, 2), 0);
        desk.setShares(18, 10);
        desk.giveForm(18);
        desk.pay(100);
        Check.equal("without the first one's form", desk.held(0, 18), 100 + 199);
        desk.giveForm(0);
        desk.pay(100);
        Check.equal("with the first one's form", desk.held(1, 18), 199);
        Check.equal("parts of the first before", desk.setParts(18, 0, 0), 1);
        desk.pay(100);
        Check.equal("all for the last", desk.held(2, 18), 300);
        desk.setTreaty(1, 1, 1);
        desk.giveForm(19);
        desk.pay(100);
        Check.equal("with the last one's form", desk.held(3, 18), 10);
        Check.equal("parts of the last before", desk.setParts(18, 19, 0), 2);
    }

    private static void promise17Due() {
        DividendDesk desk = deskWithPartnership();
        Check.index("no dividend", () -> desk.due(0, 0));
        desk.setShares(0, 1);
        desk.setShares(1, 19);
        desk.setShares(2, 100000);
        desk.pass(365);
        desk.pay(100);
        Check.equal("a partnership", desk.due(0, 0), 4 + 5);
        Check.equal("a person", desk.due(0, 1), 190);
        Check.equal("a large holding", desk.due(0, 2), 500000);
        Check.equal("without shares", desk.due(0, 3), 0);
        desk.addHolder(PERSON, 0);
        Check.equal("of one that came later", desk.due(0, 4), 0);
        desk.addHolder(PARTNERSHIP, NONE);
        desk.setShares(5, 1);
        desk.giveForm(5);
        desk.pay(100);
        Check.equal("a partnership without members", desk.due(1, 5), 30);
        Check.index("dividend -1", () -> desk.due(-1, 0));
        Check.index("dividend 2", () -> desk.due(2, 0));
        Check.index("holder -1", () -> desk.due(0, -1));
        Check.index("holder 6", () -> desk.due(0, 6));
    }

    private static void promise17DueStaysAsPaid() {
        DividendDesk desk = deskWithPartnership();
        desk.setShares(0, 1);
        desk.setShares(2, 100000);
        desk.pass(365);
        desk.pay(100);
        desk.setTreaty(1, 30, 30);
        desk.setTreaty(2, 30, 30);
        desk.setTreaty(3, 30, 30);
        desk.setParts(0, 2, 100);
        desk.setParts(0, 3, 0);
        desk.setShares(0, 1000);
        desk.setShares(2, 0);
        Check.equal("a partnership on the pay day", desk.due(0, 0), 4 + 5);
        Check.equal("a large holding on the pay day", desk.due(0, 2), 500000);
        desk.pass(2000);
        Check.equal("a partnership later", desk.due(0, 0), 4 + 5);
        Check.equal("a large holding later", desk.due(0, 2), 500000);
    }

    private static void promises18And19Sums() {
        DividendDesk desk = new DividendDesk();
        desk.addHolder(PARTNERSHIP, NONE);
        desk.setShares(0, 1000000);
        for (int i = 0; i < 40; i++) {
            desk.pay(1000);
        }
        Check.equal("heldInAll above 32 bits", desk.heldInAll(), 12000000000L);
        Check.equal("refunded nothing", desk.refunded(), 0);
        DividendDesk other = new DividendDesk();
        other.setTreaty(0, 0, 0);
        other.addHolder(PERSON, 0);
        other.addHolder(PERSON, 1);
        other.setShares(0, 900000);
        other.setShares(1, 100000);
        for (int i = 0; i < 40; i++) {
            other.pay(1000);
        }
        Check.equal("heldInAll before", other.heldInAll(), 12000000000L);
        other.giveForm(0);
        for (int i = 0; i < 40; i++) {
            Check.equal("refund", i % 2 == 0 ? other.refund(i, 0) : other.claim(i, 0), 270000000);
        }
        Check.equal("refunded above 32 bits", other.refunded(), 10800000000L);
        Check.equal("heldInAll after", other.heldInAll(), 1200000000L);
    }
}
