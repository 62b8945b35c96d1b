/** Promises 1 to 12: a new object, treaties, holders, forms and days. */
public final class HoldersTest {
    private static final int NONE = DividendDesk.NONE;
    private static final int PERSON = DividendDesk.PERSON;
    private static final int COMPANY = DividendDesk.COMPANY;
    private static final int PARTNERSHIP = DividendDesk.PARTNERSHIP;

    public static void main(String[] args) {
        constants();
        promise1NewObject();
        promise2SetTreaty();
        promise3AddHolder();
        promise4SetParts();
        promise5SetShares();
        promise6GiveForm();
        promise7Pass();
        promise8Day();
        promise9Shares();
        promise10IsValid();
        promise11IsLarge();
        promise11IsLargeAfterChanges();
        promise12TreatyRate();
        Check.end("HoldersTest");
    }

    private static void constants() {
        Check.equal("NONE", NONE, -1);
        Check.equal("PERSON", PERSON, 0);
        Check.equal("COMPANY", COMPANY, 1);
        Check.equal("PARTNERSHIP", PARTNERSHIP, 2);
    }

    private static void promise1NewObject() {
        DividendDesk desk = new DividendDesk();
        Check.equal("new: day", desk.day(), 0);
        Check.equal("new: dividends", desk.dividends(), 0);
        Check.equal("new: heldInAll", desk.heldInAll(), 0);
        Check.equal("new: refunded", desk.refunded(), 0);
        Check.index("new: no holder 0", () -> desk.shares(0));
        for (int land = 0; land < 6; land++) {
            Check.equal("new: general rate", desk.setTreaty(land, 0, 0), 30);
        }
        DividendDesk other = new DividendDesk();
        Check.equal("objects do not share treaties", other.setTreaty(0, 1, 1), 30);
        other.addHolder(PERSON, 0);
        Check.index("objects do not share holders", () -> desk.shares(0));
    }

    private static void promise2SetTreaty() {
        DividendDesk desk = new DividendDesk();
        Check.equal("setTreaty first", desk.setTreaty(5, 0, 30), 30);
        Check.equal("setTreaty second", desk.setTreaty(5, 30, 0), 0);
        Check.equal("setTreaty third", desk.setTreaty(5, 12, 7), 30);
        Check.equal("setTreaty elsewhere", desk.setTreaty(0, 1, 1), 30);
        Check.argument("land -1", () -> desk.setTreaty(-1, 1, 1));
        Check.argument("land 6", () -> desk.setTreaty(6, 1, 1));
        Check.argument("land largest", () -> desk.setTreaty(Integer.MAX_VALUE, 1, 1));
        Check.argument("general -1", () -> desk.setTreaty(5, -1, 1));
        Check.argument("general 31", () -> desk.setTreaty(5, 31, 1));
        Check.argument("large -1", () -> desk.setTreaty(5, 1, -1));
        Check.argument("large 31", () -> desk.setTreaty(5, 1, 31));
        Check.equal("a thrown setTreaty changed nothing", desk.setTreaty(5, 2, 2), 12);
    }

    private static void promise3AddHolder() {
        DividendDesk desk = new DividendDesk();
        Check.argument("kind -1", () -> desk.addHolder(-1, 0));
        Check.argument("kind 3", () -> desk.addHolder(3, 0));
        Check.argument("kind 3 without a land", () -> desk.addHolder(3, NONE));
        Check.argument("person without a land", () -> desk.addHolder(PERSON, NONE));
        Check.argument("company in land 6", () -> desk.addHolder(COMPANY, 6));
        Check.argument("person in land -2", () -> desk.addHolder(PERSON, -2));
        Check.argument("partnership in a land", () -> desk.addHolder(PARTNERSHIP, 0));
        Check.argument("partnership in land -2", () -> desk.addHolder(PARTNERSHIP, -2));
        Check.equal("first", desk.addHolder(PERSON, 0), 0);
        Check.equal("second", desk.addHolder(COMPANY, 5), 1);
        Check.equal("third", desk.addHolder(PARTNERSHIP, NONE), 2);
        for (int i = 3; i < 20; i++) {
            Check.equal("next", desk.addHolder(i % 2, i % 6), i);
        }
        Check.state("a 21st", () -> desk.addHolder(PERSON, 0));
        Check.state("a 21st partnership", () -> desk.addHolder(PARTNERSHIP, NONE));
        Check.argument("the argument is looked at first", () -> desk.addHolder(PERSON, 6));
        Check.index("there are 20", () -> desk.shares(20));
        Check.equal("the last", desk.shares(19), 0);
    }

    private static void promise4SetParts() {
        DividendDesk desk = new DividendDesk();
        desk.addHolder(PARTNERSHIP, NONE);
        desk.addHolder(PERSON, 0);
        desk.addHolder(COMPANY, 0);
        desk.addHolder(PARTNERSHIP, NONE);
        Check.equal("parts of a person", desk.setParts(0, 1, 100), 0);
        Check.equal("parts of a company", desk.setParts(0, 2, 7), 0);
        Check.equal("parts in another one", desk.setParts(3, 1, 3), 0);
        Check.equal("parts before", desk.setParts(0, 1, 0), 100);
        Check.equal("parts of none before", desk.setParts(0, 1, 5), 0);
        Check.index("no such partnership", () -> desk.setParts(4, 1, 1));
        Check.index("partnership -1", () -> desk.setParts(-1, 1, 1));
        Check.index("no such member", () -> desk.setParts(0, 4, 1));
        Check.index("member -1", () -> desk.setParts(0, -1, 1));
        Check.index("the index is looked at first", () -> desk.setParts(1, 4, 101));
        Check.argument("a person has no members", () -> desk.setParts(1, 2, 1));
        Check.argument("a company has no members", () -> desk.setParts(2, 1, 1));
        Check.argument("a partnership is no member", () -> desk.setParts(0, 3, 1));
        Check.argument("nor of itself", () -> desk.setParts(0, 0, 1));
        Check.argument("parts -1", () -> desk.setParts(0, 1, -1));
        Check.argument("parts 101", () -> desk.setParts(0, 1, 101));
        Check.equal("a thrown setParts changed nothing", desk.setParts(0, 1, 6), 5);
        Check.equal("nor elsewhere", desk.setParts(3, 1, 0), 3);
    }

    private static void promise5SetShares() {
        DividendDesk desk = new DividendDesk();
        desk.addHolder(PERSON, 0);
        desk.addHolder(PARTNERSHIP, NONE);
        Check.equal("shares before", desk.setShares(0, 600000), 0);
        Check.equal("all that are left", desk.setShares(1, 400000), 0);
        Check.state("one too many", () -> desk.setShares(1, 400001));
        Check.state("one too many of the other", () -> desk.setShares(0, 600001));
        Check.state("all of them", () -> desk.setShares(0, 1000000));
        Check.argument("shares -1", () -> desk.setShares(0, -1));
        Check.argument("shares 1000001", () -> desk.setShares(0, 1000001));
        Check.argument("shares largest", () -> desk.setShares(0, Integer.MAX_VALUE));
        Check.index("no such holder", () -> desk.setShares(2, 1));
        Check.index("the index is looked at first", () -> desk.setShares(-1, -1));
        Check.equal("a thrown setShares changed nothing", desk.shares(0), 600000);
        Check.equal("the same again", desk.setShares(0, 600000), 600000);
        Check.equal("none", desk.setShares(1, 0), 400000);
        Check.equal("all", desk.setShares(0, 1000000), 600000);
        Check.state("none is left", () -> desk.setShares(1, 1));
    }

    private static void promise6GiveForm() {
        DividendDesk desk = new DividendDesk();
        desk.addHolder(PERSON, 0);
        desk.addHolder(PARTNERSHIP, NONE);
        Check.equal("a form on day 0", desk.giveForm(0), 1080);
        desk.pass(7);
        Check.equal("a form of a partnership on day 7", desk.giveForm(1), 1087);
        Check.equal("a new one takes its place", desk.giveForm(0), 1087);
        Check.index("no such holder", () -> desk.giveForm(2));
        Check.index("holder -1", () -> desk.giveForm(-1));
        desk.pass(1080);
        Check.isTrue("the new form is valid", desk.isValid(0));
        desk.pass(1);
        Check.isTrue("it lapses", !desk.isValid(0));
    }

    private static void promise7Pass() {
        DividendDesk desk = new DividendDesk();
        Check.argument("0 days", () -> desk.pass(0));
        Check.argument("-1 days", () -> desk.pass(-1));
        Check.argument("2001 days", () -> desk.pass(2001));
        Check.argument("the most days", () -> desk.pass(Integer.MAX_VALUE));
        Check.equal("1 day", desk.pass(1), 1);
        Check.equal("2000 days", desk.pass(2000), 2001);
        for (int i = 2; i <= 9; i++) {
            Check.equal("more days", desk.pass(2000), i * 2000 + 1);
        }
        Check.state("above 20000", () -> desk.pass(2000));
        Check.argument("the argument is looked at first", () -> desk.pass(2001));
        Check.equal("to 20000", desk.pass(1999), 20000);
        Check.state("above 20000 by 1", () -> desk.pass(1));
        Check.equal("a thrown pass changed nothing", desk.day(), 20000);
    }

    private static void promise8Day() {
        DividendDesk desk = new DividendDesk();
        desk.pass(3);
        desk.pass(4);
        Check.equal("day", desk.day(), 7);
        desk.addHolder(PERSON, 0);
        desk.setShares(0, 1);
        desk.pay(1);
        Check.equal("other calls let no day pass", desk.day(), 7);
    }

    private static void promise9Shares() {
        DividendDesk desk = new DividendDesk();
        Check.index("no holder", () -> desk.shares(0));
        desk.addHolder(PERSON, 0);
        desk.addHolder(PARTNERSHIP, NONE);
        Check.equal("0 at first", desk.shares(0), 0);
        desk.setShares(0, 12);
        desk.setShares(1, 34);
        Check.equal("shares of the one", desk.shares(0), 12);
        Check.equal("shares of the other", desk.shares(1), 34);
        desk.pass(5);
        Check.equal("shares stay", desk.shares(0), 12);
        Check.index("holder -1", () -> desk.shares(-1));
        Check.index("holder 2", () -> desk.shares(2));
    }

    private static void promise10IsValid() {
        DividendDesk desk = new DividendDesk();
        Check.index("no holder", () -> desk.isValid(0));
        desk.addHolder(PERSON, 0);
        desk.addHolder(PARTNERSHIP, NONE);
        Check.isTrue("without a form", !desk.isValid(0));
        desk.giveForm(0);
        Check.isTrue("on its day", desk.isValid(0));
        Check.isTrue("another's form", !desk.isValid(1));
        desk.pass(1080);
        Check.isTrue("on its last day", desk.isValid(0));
        desk.giveForm(1);
        desk.pass(1);
        Check.isTrue("the day after", !desk.isValid(0));
        Check.isTrue("a partnership's form", desk.isValid(1));
        Check.index("holder -1", () -> desk.isValid(-1));
        Check.index("holder 2", () -> desk.isValid(2));
    }

    private static void promise11IsLarge() {
        DividendDesk desk = new DividendDesk();
        Check.index("no holder", () -> desk.isLarge(0));
        desk.addHolder(COMPANY, 0);
        desk.addHolder(PERSON, 0);
        desk.addHolder(PARTNERSHIP, NONE);
        desk.addHolder(COMPANY, 0);
        for (int holder = 0; holder < 3; holder++) {
            desk.setShares(holder, 100000);
        }
        desk.setShares(3, 99999);
        Check.isTrue("not on day 0", !desk.isLarge(0));
        desk.pass(364);
        Check.isTrue("not on day 364", !desk.isLarge(0));
        desk.pass(1);
        Check.isTrue("on day 365", desk.isLarge(0));
        Check.isTrue("no person", !desk.isLarge(1));
        Check.isTrue("no partnership", !desk.isLarge(2));
        Check.isTrue("not with 99999", !desk.isLarge(3));
        desk.setShares(3, 100000);
        Check.isTrue("nor with the last one bought now", !desk.isLarge(3));
        desk.pass(365);
        Check.isTrue("365 days later", desk.isLarge(3));
        Check.index("holder -1", () -> desk.isLarge(-1));
        Check.index("holder 4", () -> desk.isLarge(4));
    }

    private static void promise11IsLargeAfterChanges() {
        DividendDesk desk = new DividendDesk();
        desk.pass(10);
        desk.addHolder(COMPANY, 0);
        desk.setShares(0, 200000);
        desk.pass(1);
        desk.setShares(0, 100000);
        desk.pass(363);
        Check.isTrue("not after 364 days", !desk.isLarge(0));
        desk.pass(1);
        Check.isTrue("after 365 days", desk.isLarge(0));
        desk.setShares(0, 99999);
        Check.isTrue("not with fewer now", !desk.isLarge(0));
        desk.setShares(0, 100000);
        Check.isTrue("within a day only its end counts", desk.isLarge(0));
        desk.setShares(0, 99999);
        desk.pass(1);
        desk.setShares(0, 100000);
        Check.isTrue("not after a day with fewer at its end", !desk.isLarge(0));
        desk.pass(364);
        Check.isTrue("nor 364 days behind it", !desk.isLarge(0));
        desk.pass(1);
        Check.isTrue("but 365 days behind it", desk.isLarge(0));
    }

    private static void promise12TreatyRate() {
        DividendDesk desk = new DividendDesk();
        Check.index("no holder", () -> desk.treatyRate(0));
        desk.addHolder(COMPANY, 2);
        desk.addHolder(PERSON, 2);
        desk.addHolder(PARTNERSHIP, NONE);
        desk.addHolder(COMPANY, 3);
        desk.addHolder(COMPANY, 4);
        desk.setShares(4, 100000);
        Check.equal("at first", desk.treatyRate(0), 30);
        desk.setTreaty(2, 15, 5);
        desk.setTreaty(3, 10, 20);
        desk.setShares(0, 100000);
        desk.setShares(1, 100000);
        desk.setShares(3, 100000);
        Check.equal("general", desk.treatyRate(0), 15);
        Check.argument("a partnership has none", () -> desk.treatyRate(2));
        Check.index("holder -1", () -> desk.treatyRate(-1));
        Check.index("holder 5", () -> desk.treatyRate(5));
        desk.pass(365);
        Check.equal("large, in a land whose treaty was not set", desk.treatyRate(4), 30);
        Check.equal("large", desk.treatyRate(0), 5);
        Check.equal("a person", desk.treatyRate(1), 15);
        Check.equal("large, but not less", desk.treatyRate(3), 10);
        desk.setTreaty(2, 15, 0);
        Check.equal("a new treaty counts from today on", desk.treatyRate(0), 0);
        desk.setShares(0, 99999);
        Check.equal("no longer large", desk.treatyRate(0), 15);
    }
}
