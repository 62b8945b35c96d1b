/** Promises 20 and 21: quick refunds and claims. */
public final class RefundsTest {
    private static final int NONE = DividendDesk.NONE;
    private static final int PERSON = DividendDesk.PERSON;
    private static final int COMPANY = DividendDesk.COMPANY;
    private static final int PARTNERSHIP = DividendDesk.PARTNERSHIP;

    public static void main(String[] args) {
        promise20Refund();
        promise20RefundOfPartnerships();
        promise20RefundKeepsFormsOfThePayDay();
        promise20RefundByThePayDaysTerms();
        promise20Throws();
        promise21Claim();
        promise21ClaimOfPartnerships();
        promise21Throws();
        refundsAndClaimsInTurn();
        Check.end("RefundsTest");
    }

    private static DividendDesk deskWithPerson() {
        DividendDesk desk = new DividendDesk();
        desk.setTreaty(0, 15, 5);
        desk.addHolder(PERSON, 0);
        desk.setShares(0, 101);
        desk.pay(10);
        return desk;
    }

    private static void promise20Refund() {
        DividendDesk desk = deskWithPerson();
        Check.equal("without a form", desk.refund(0, 0), 0);
        desk.giveForm(0);
        Check.equal("with a form", desk.refund(0, 0), 303 - 151);
        Check.equal("once", desk.refund(0, 0), 0);
        Check.equal("held afterwards", desk.held(0, 0), 151);
        Check.equal("due stays", desk.due(0, 0), 151);
        Check.equal("refunded", desk.refunded(), 152);
        Check.equal("heldInAll", desk.heldInAll(), 151);
        DividendDesk late = deskWithPerson();
        late.giveForm(0);
        late.pass(60);
        Check.equal("60 days behind the pay day", late.refund(0, 0), 152);
        DividendDesk later = deskWithPerson();
        later.giveForm(0);
        later.pass(61);
        Check.state("61 days behind the pay day", () -> later.refund(0, 0));
        Check.equal("a thrown refund changed nothing", later.held(0, 0), 303);
    }

    private static void promise20RefundOfPartnerships() {
        DividendDesk desk = DividendsTest.deskWithPartnership();
        desk.setShares(0, 1);
        desk.pay(100);
        desk.giveForm(1);
        desk.giveForm(3);
        Check.equal("without the form of the partnership", desk.refund(0, 0), 0);
        desk.giveForm(0);
        Check.equal("with forms of two members", desk.refund(0, 0), 29 - (4 + 8));
        desk.giveForm(2);
        Check.equal("with one more", desk.refund(0, 0), 3);
        Check.equal("held afterwards", desk.held(0, 0), desk.due(0, 0));
        DividendDesk none = new DividendDesk();
        none.addHolder(PARTNERSHIP, NONE);
        none.setShares(0, 1);
        none.pay(100);
        none.giveForm(0);
        Check.equal("without members", none.refund(0, 0), 0);
    }

    private static void promise20RefundKeepsFormsOfThePayDay() {
        DividendDesk desk = DividendsTest.deskWithPartnership();
        desk.setShares(0, 1);
        desk.giveForm(0);
        desk.giveForm(1);
        desk.pass(1080);
        desk.pay(100);
        desk.pass(1);
        Check.isTrue("the forms have lapsed", !desk.isValid(0) && !desk.isValid(1));
        desk.giveForm(2);
        Check.equal("they count besides those of today", desk.refund(0, 0), 3);
        Check.equal("held afterwards", desk.held(0, 0), 4 + 5 + 8);
    }

    private static void promise20RefundByThePayDaysTerms() {
        DividendDesk desk = DividendsTest.deskWithPartnership();
        desk.addHolder(PERSON, 3);
        desk.addHolder(COMPANY, 2);
        desk.setShares(0, 1);
        desk.setShares(5, 100000);
        desk.pass(365);
        desk.pay(100);
        desk.setTreaty(1, 30, 30);
        desk.setTreaty(2, 30, 30);
        desk.setParts(0, 1, 0);
        desk.setParts(0, 4, 100);
        desk.setShares(0, 0);
        desk.setShares(5, 0);
        desk.pass(1);
        desk.giveForm(0);
        desk.giveForm(4);
        Check.equal("a later member's form does not count", desk.refund(0, 0), 0);
        desk.giveForm(1);
        Check.equal("that of a member of the pay day does", desk.refund(0, 0), 13 - 4);
        desk.giveForm(5);
        Check.equal("a large holding of the pay day", desk.refund(0, 5), 3000000 - 500000);
    }

    private static void promise20Throws() {
        DividendDesk desk = deskWithPerson();
        desk.addHolder(PERSON, 0);
        desk.giveForm(1);
        Check.state("not there on the pay day", () -> desk.refund(0, 1));
        desk.pay(10);
        Check.state("no shares on the pay day", () -> desk.refund(1, 1));
        desk.setShares(1, 5);
        Check.state("shares came after the second was paid", () -> desk.refund(1, 1));
        Check.state("shares came after it was paid", () -> desk.refund(0, 1));
        Check.index("dividend -1", () -> desk.refund(-1, 0));
        Check.index("dividend 2", () -> desk.refund(2, 0));
        Check.index("holder -1", () -> desk.refund(0, -1));
        Check.index("holder 2", () -> desk.refund(0, 2));
        desk.pass(2000);
        Check.index("the index is looked at first", () -> desk.refund(0, 2));
        Check.equal("nothing was refunded", desk.refunded(), 0);
    }

    private static void promise21Claim() {
        DividendDesk desk = deskWithPerson();
        Check.state("without a form", () -> desk.claim(0, 0));
        desk.giveForm(0);
        Check.equal("on the pay day", desk.claim(0, 0), 152);
        Check.equal("once", desk.claim(0, 0), 0);
        Check.equal("held afterwards", desk.held(0, 0), 151);
        Check.equal("refunded", desk.refunded(), 152);
        DividendDesk late = deskWithPerson();
        late.pass(1080);
        late.giveForm(0);
        Check.equal("1080 days behind the pay day", late.claim(0, 0), 152);
        DividendDesk later = deskWithPerson();
        later.pass(1081);
        later.giveForm(0);
        Check.state("1081 days behind the pay day", () -> later.claim(0, 0));
        DividendDesk lapsed = deskWithPerson();
        lapsed.giveForm(0);
        lapsed.pass(1000);
        lapsed.pay(10);
        lapsed.pass(81);
        Check.state("a form that has lapsed", () -> lapsed.claim(1, 0));
        lapsed.giveForm(0);
        Check.equal("nothing was held above the due tax", lapsed.claim(1, 0), 0);
        Check.equal("it stays held", lapsed.held(1, 0), 151);
    }

    private static void promise21ClaimOfPartnerships() {
        DividendDesk desk = DividendsTest.deskWithPartnership();
        desk.setShares(0, 1);
        desk.pay(100);
        desk.pass(100);
        desk.giveForm(1);
        Check.state("a member's form is not enough", () -> desk.claim(0, 0));
        desk.giveForm(0);
        Check.equal("members' forms are not asked for", desk.claim(0, 0), 29 - 9);
        Check.equal("held afterwards", desk.held(0, 0), 9);
    }

    private static void promise21Throws() {
        DividendDesk desk = deskWithPerson();
        desk.addHolder(PERSON, 0);
        desk.giveForm(1);
        Check.state("not there on the pay day", () -> desk.claim(0, 1));
        desk.pay(10);
        Check.state("no shares on the pay day", () -> desk.claim(1, 1));
        desk.setShares(1, 5);
        Check.state("shares came after the second was paid", () -> desk.claim(1, 1));
        Check.state("shares came after it was paid", () -> desk.claim(0, 1));
        Check.index("dividend -1", () -> desk.claim(-1, 0));
        Check.index("dividend 2", () -> desk.claim(2, 0));
        Check.index("holder -1", () -> desk.claim(0, -1));
        Check.index("holder 2", () -> desk.claim(0, 2));
        Check.equal("a thrown claim changed nothing", desk.held(0, 0), 303);
        desk.pass(1081);
        Check.index("the index is looked at first", () -> desk.claim(0, 2));
    }

    private static void refundsAndClaimsInTurn() {
        DividendDesk desk = DividendsTest.deskWithPartnership();
        desk.setShares(0, 1);
        desk.giveForm(0);
        desk.pay(100);
        desk.giveForm(1);
        Check.equal("a quick refund first", desk.refund(0, 0), 9);
        Check.equal("a claim of the rest", desk.claim(0, 0), 11);
        Check.equal("a quick refund once more", desk.refund(0, 0), 0);
        Check.equal("held is the due tax", desk.held(0, 0), 9);
        Check.equal("refunded is the sum", desk.refunded(), 20);
    }
}
