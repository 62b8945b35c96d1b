/** Each sentence of the document that names a boundary of lands, holders, forms, days and rates, by a run of its own. */
public final class HolderEdgesTest {
    public static void main(String[] args) {
        newObject();
        lands();
        numbersOfHolders();
        kindsAndLandsOfHolders();
        parts();
        partsRefused();
        shares();
        sharesRefused();
        forms();
        days();
        isValid();
        largeByShares();
        largeByDays();
        largeByEndsOfDays();
        rates();
        runsOf512Calls();
        Check.end("HolderEdgesTest");
    }

    private static void newObject() {
        Run.of("it is the day 0 at first", "day = 0");
        Run.of("no holders: none is there to be asked",
            "shares 0 throws Index; isValid 0 throws Index; isLarge 0 throws Index; treatyRate 0 throws Index",
            "giveForm 0 throws Index; setShares 0 0 throws Index; setParts 0 0 0 throws Index",
            "addHolder PERSON 0 = 0; shares 0 = 0; shares 1 throws Index");
        Run.of("no dividends: none is there to be asked",
            "addHolder PERSON 0; setShares 0 1; giveForm 0; dividends = 0; heldInAll = 0; refunded = 0",
            "gross 0 0 throws Index; held 0 0 throws Index; due 0 0 throws Index",
            "refund 0 0 throws Index; claim 0 0 throws Index; dividends = 0; pay 1 = 0; gross 0 0 = 1");
    }

    private static void lands() {
        Run.of("lands 0 to 5: a treaty of each",
            "setTreaty 0 1 1 = 30; setTreaty 1 2 2 = 30; setTreaty 2 3 3 = 30",
            "setTreaty 3 4 4 = 30; setTreaty 4 5 5 = 30; setTreaty 5 6 6 = 30",
            "setTreaty 0 0 0 = 1; setTreaty 1 0 0 = 2; setTreaty 2 0 0 = 3",
            "setTreaty 3 0 0 = 4; setTreaty 4 0 0 = 5; setTreaty 5 0 0 = 6");
        Run.of("lands 0 to 5: no treaty below and above",
            "setTreaty 0 11 7; setTreaty 5 12 8",
            "setTreaty -1 1 1 throws Argument; setTreaty 6 1 1 throws Argument",
            "setTreaty MIN 1 1 throws Argument; setTreaty MAX 1 1 throws Argument",
            "setTreaty 0 30 30 = 11; setTreaty 5 30 30 = 12");
        Run.of("both rates are 30 at first: the general one",
            "addHolder PERSON 0; addHolder COMPANY 5; treatyRate 0 = 30; treatyRate 1 = 30; setTreaty 0 30 0 = 30");
        Run.of("both rates are 30 at first: the one for large holdings",
            "addHolder COMPANY 0; setShares 0 100000; pass 365; isLarge 0 = true; treatyRate 0 = 30");
        Run.of("general: 0 to 30",
            "addHolder PERSON 2; setTreaty 2 0 30 = 30; treatyRate 0 = 0; setTreaty 2 30 30 = 0; treatyRate 0 = 30",
            "setTreaty 2 -1 30 throws Argument; setTreaty 2 31 30 throws Argument",
            "setTreaty 2 MIN 30 throws Argument; setTreaty 2 MAX 30 throws Argument; treatyRate 0 = 30");
        Run.of("large: 0 to 30",
            "addHolder COMPANY 2; setShares 0 100000; pass 365",
            "setTreaty 2 30 0 = 30; treatyRate 0 = 0; setTreaty 2 30 30 = 30; treatyRate 0 = 30",
            "setTreaty 2 30 7; setTreaty 2 30 -1 throws Argument; setTreaty 2 30 31 throws Argument",
            "setTreaty 2 30 MIN throws Argument; setTreaty 2 30 MAX throws Argument; treatyRate 0 = 7");
        Run.of("a refused treaty changes neither rate",
            "addHolder COMPANY 3; setShares 0 100000; pass 365; setTreaty 3 20 9",
            "setTreaty 3 5 31 throws Argument; setTreaty 3 31 5 throws Argument; treatyRate 0 = 9",
            "setShares 0 0; treatyRate 0 = 20");
        Run.of("the general rate before, not the one for large holdings",
            "setTreaty 4 12 7 = 30; setTreaty 4 20 3 = 12; setTreaty 4 20 3 = 20");
    }

    private static void numbersOfHolders() {
        Run.of("holders are numbered from 0",
            "addHolder PERSON 0 = 0; addHolder COMPANY 0 = 1; addHolder PARTNERSHIP NONE = 2; addHolder PERSON 0 = 3");
        Run.of("there are at most 20",
            "19x addHolder PERSON 0; addHolder COMPANY 5 = 19; shares 19 = 0; shares 20 throws Index",
            "addHolder PERSON 0 throws State; addHolder COMPANY 5 throws State",
            "addHolder PARTNERSHIP NONE throws State; shares 20 throws Index");
        Run.of("there are at most 20 partnerships",
            "19x addHolder PARTNERSHIP NONE; addHolder PARTNERSHIP NONE = 19; addHolder PARTNERSHIP NONE throws State",
            "setParts 19 0 1 throws Argument; giveForm 19 = 1080; giveForm 20 throws Index");
        Run.of("with 20 holders an argument that is wrong is named first",
            "20x addHolder COMPANY 0; addHolder 3 0 throws Argument; addHolder -1 0 throws Argument",
            "addHolder PERSON 6 throws Argument; addHolder PERSON NONE throws Argument",
            "addHolder PARTNERSHIP 0 throws Argument; addHolder PERSON 0 throws State");
        Run.of("a refused holder takes no number",
            "addHolder PERSON 0 = 0; addHolder PERSON 6 throws Argument; addHolder 3 0 throws Argument",
            "shares 1 throws Index; addHolder PERSON 5 = 1");
    }

    private static void kindsAndLandsOfHolders() {
        Run.of("kind: PERSON, COMPANY or PARTNERSHIP",
            "addHolder 0 0 = 0; addHolder 1 0 = 1; addHolder 2 -1 = 2",
            "addHolder -1 0 throws Argument; addHolder 3 0 throws Argument; addHolder 3 NONE throws Argument",
            "addHolder -1 NONE throws Argument; addHolder MIN 0 throws Argument; addHolder MAX 0 throws Argument");
        Run.of("land of a person: 0 to 5",
            "addHolder PERSON 0 = 0; addHolder PERSON 5 = 1; addHolder PERSON NONE throws Argument",
            "addHolder PERSON 6 throws Argument; addHolder PERSON -2 throws Argument",
            "addHolder PERSON MIN throws Argument; addHolder PERSON MAX throws Argument");
        Run.of("land of a company: 0 to 5",
            "addHolder COMPANY 0 = 0; addHolder COMPANY 5 = 1; addHolder COMPANY NONE throws Argument",
            "addHolder COMPANY 6 throws Argument; addHolder COMPANY -2 throws Argument",
            "addHolder COMPANY MIN throws Argument; addHolder COMPANY MAX throws Argument");
        Run.of("land of a partnership: NONE",
            "addHolder PARTNERSHIP NONE = 0; addHolder PARTNERSHIP 0 throws Argument",
            "addHolder PARTNERSHIP 5 throws Argument; addHolder PARTNERSHIP -2 throws Argument",
            "addHolder PARTNERSHIP 6 throws Argument; addHolder PARTNERSHIP MIN throws Argument");
    }

    private static void parts() {
        Run.of("members have parts, 0 at first",
            "addHolder PARTNERSHIP NONE; addHolder PERSON 0; addHolder COMPANY 0",
            "setParts 0 1 0 = 0; setParts 0 2 0 = 0");
        Run.of("parts: 0 to 100",
            "addHolder PARTNERSHIP NONE; addHolder PERSON 0; setParts 0 1 100 = 0; setParts 0 1 0 = 100",
            "setParts 0 1 1 = 0; setParts 0 1 -1 throws Argument; setParts 0 1 101 throws Argument",
            "setParts 0 1 MIN throws Argument; setParts 0 1 MAX throws Argument; setParts 0 1 1 = 1");
        Run.of("each partnership has parts of its own",
            "addHolder PARTNERSHIP NONE; addHolder PERSON 0; addHolder PARTNERSHIP NONE",
            "setParts 0 1 4 = 0; setParts 2 1 5 = 0; setParts 0 1 6 = 4; setParts 2 1 7 = 5");
        Run.of("parts of the first and the last of 20 holders",
            "addHolder PERSON 0; 18x addHolder PARTNERSHIP NONE; addHolder COMPANY 5",
            "setParts 1 0 3 = 0; setParts 1 19 4 = 0; setParts 18 0 5 = 0; setParts 18 19 6 = 0",
            "setParts 1 0 0 = 3; setParts 1 19 0 = 4; setParts 18 0 0 = 5; setParts 18 19 0 = 6");
        Run.of("19 members with 100 parts each",
            "addHolder PARTNERSHIP NONE; 19x addHolder PERSON 0; setParts 0 1 100; setParts 0 2 100; setParts 0 3 100",
            "setParts 0 4 100; setParts 0 5 100; setParts 0 6 100; setParts 0 7 100; setParts 0 8 100",
            "setParts 0 9 100; setParts 0 10 100; setParts 0 11 100; setParts 0 12 100; setParts 0 13 100",
            "setParts 0 14 100; setParts 0 15 100; setParts 0 16 100; setParts 0 17 100; setParts 0 18 100",
            "setParts 0 19 100 = 0; setParts 0 20 100 throws Index; setParts 0 1 100 = 100; setParts 0 19 100 = 100");
    }

    private static void partsRefused() {
        String holders = "addHolder PARTNERSHIP NONE; addHolder PERSON 0; addHolder COMPANY 0;"
            + "addHolder PARTNERSHIP NONE; setParts 0 1 9; setParts 3 2 8";
        Run.of("no such holder, of either: the partnership", holders,
            "setParts -1 1 1 throws Index; setParts 4 1 1 throws Index",
            "setParts MIN 1 1 throws Index; setParts MAX 1 1 throws Index");
        Run.of("no such holder, of either: the member", holders,
            "setParts 0 -1 1 throws Index; setParts 0 4 1 throws Index",
            "setParts 0 MIN 1 throws Index; setParts 0 MAX 1 throws Index");
        Run.of("no such holder is named ahead of a wrong argument", holders,
            "setParts 4 1 101 throws Index; setParts 0 4 -1 throws Index; setParts 4 0 1 throws Index",
            "setParts 1 4 1 throws Index; setParts 2 -1 1 throws Index; setParts -1 3 101 throws Index");
        Run.of("the first one is no partnership", holders,
            "setParts 1 2 1 throws Argument; setParts 2 1 1 throws Argument; setParts 1 1 0 throws Argument");
        Run.of("the member is a partnership", holders,
            "setParts 0 3 1 throws Argument; setParts 3 0 1 throws Argument; setParts 0 0 1 throws Argument",
            "setParts 0 3 0 throws Argument");
        Run.of("a refused partnership is no member and takes no part", holders,
            "setParts 0 2 9; setParts 0 3 100 throws Argument; setParts 0 0 100 throws Argument; setShares 0 1",
            "pay 18; held 0 0 = 4; due 0 0 = 4");
        Run.of("refused parts change nothing", holders,
            "setParts 0 1 101 throws Argument; setParts 1 2 5 throws Argument; setParts 0 3 5 throws Argument",
            "setParts 0 4 5 throws Index; setParts 0 1 0 = 9; setParts 0 2 0 = 0; setParts 3 2 0 = 8");
    }

    private static void shares() {
        Run.of("a holder has shares, 0 at first",
            "addHolder PERSON 0; shares 0 = 0; setShares 0 5 = 0; addHolder COMPANY 0; shares 1 = 0",
            "addHolder PARTNERSHIP NONE; shares 2 = 0; setShares 2 1 = 0");
        Run.of("shares: 0 to 1000000",
            "addHolder PERSON 0; setShares 0 0 = 0; setShares 0 1000000 = 0; shares 0 = 1000000",
            "setShares 0 -1 throws Argument; setShares 0 1000001 throws Argument; setShares 0 MIN throws Argument",
            "setShares 0 MAX throws Argument; shares 0 = 1000000; setShares 0 0 = 1000000; shares 0 = 0");
        Run.of("1000000 in all: by one",
            "addHolder COMPANY 0; addHolder PERSON 0; setShares 0 1000000 = 0; setShares 1 1 throws State",
            "setShares 1 1000000 throws State; setShares 1 0 = 0; setShares 0 999999 = 1000000; setShares 1 1 = 0");
        Run.of("1000000 in all: by two",
            "addHolder PERSON 0; addHolder PARTNERSHIP NONE; setShares 0 600000 = 0; setShares 1 400001 throws State",
            "shares 1 = 0; setShares 1 400000 = 0; setShares 0 600001 throws State; shares 0 = 600000",
            "setShares 1 400001 throws State; shares 1 = 400000");
        Run.of("1000000 in all: by 20",
            "20x addHolder COMPANY 0; setShares 0 50000; setShares 1 50000; setShares 2 50000; setShares 3 50000",
            "setShares 4 50000; setShares 5 50000; setShares 6 50000; setShares 7 50000; setShares 8 50000",
            "setShares 9 50000; setShares 10 50000; setShares 11 50000; setShares 12 50000; setShares 13 50000",
            "setShares 14 50000; setShares 15 50000; setShares 16 50000; setShares 17 50000; setShares 18 50000",
            "setShares 19 50001 throws State; setShares 19 50000 = 0; setShares 0 50001 throws State",
            "setShares 19 49999 = 50000; setShares 0 50001 = 50000; setShares 0 50002 throws State");
        Run.of("what the holder had itself is not counted with the new shares",
            "addHolder PERSON 0; addHolder PERSON 0; setShares 1 1; setShares 0 999999 = 0; setShares 0 999999 = 999999",
            "setShares 0 999998 = 999999; setShares 0 999999 = 999998; setShares 0 1000000 throws State");
    }

    private static void sharesRefused() {
        Run.of("shares of no such holder",
            "addHolder PERSON 0; addHolder PERSON 0; setShares 1 3; setShares -1 1 throws Index",
            "setShares 2 1 throws Index; setShares MIN 1 throws Index; setShares MAX 1 throws Index",
            "shares -1 throws Index; shares 2 throws Index; shares MIN throws Index; shares MAX throws Index",
            "shares 1 = 3; shares 0 = 0");
        Run.of("no such holder is named ahead of shares out of range and of too many",
            "addHolder PERSON 0; setShares 0 1000000; setShares 1 -1 throws Index; setShares 1 1000001 throws Index",
            "setShares -1 1000000 throws Index; setShares 1 1 throws Index");
        Run.of("shares out of range are named ahead of too many",
            "addHolder PERSON 0; addHolder PERSON 0; setShares 0 1000000; setShares 1 1000001 throws Argument",
            "setShares 1 -1 throws Argument; setShares 1 MAX throws Argument; setShares 1 1000000 throws State");
    }

    private static void forms() {
        Run.of("a form is valid on this day",
            "addHolder PERSON 0; isValid 0 = false; giveForm 0 = 1080; isValid 0 = true");
        Run.of("a form is valid on the 1080 days behind it",
            "addHolder PERSON 0; giveForm 0 = 1080; pass 1; isValid 0 = true; pass 1078; isValid 0 = true",
            "pass 1 = 1080; isValid 0 = true; pass 1 = 1081; isValid 0 = false; pass 2000; isValid 0 = false");
        Run.of("a form of a later day is valid on the 1080 days behind it",
            "addHolder COMPANY 0; pass 777; isValid 0 = false; giveForm 0 = 1857; pass 1080 = 1857; isValid 0 = true",
            "pass 1; isValid 0 = false");
        Run.of("a new form takes the place of the one before",
            "addHolder PERSON 0; giveForm 0 = 1080; giveForm 0 = 1080; pass 1; giveForm 0 = 1081",
            "pass 1080 = 1081; isValid 0 = true; giveForm 0 = 2161; pass 1080; isValid 0 = true",
            "pass 1; isValid 0 = false; giveForm 0 = 3242; isValid 0 = true");
        Run.of("a partnership can give a form, too",
            "addHolder PARTNERSHIP NONE; addHolder PERSON 0; giveForm 0 = 1080; isValid 0 = true; isValid 1 = false",
            "pass 1080; isValid 0 = true; pass 1; isValid 0 = false");
        Run.of("a form on the last days lapses behind the day 20000",
            "addHolder PERSON 0; 9x pass 2000; pass 919 = 18919; giveForm 0 = 19999; pass 1080 = 19999",
            "isValid 0 = true; pass 1 = 20000; isValid 0 = false; giveForm 0 = 21080; isValid 0 = true");
        Run.of("a form of the day 18920 is valid on the day 20000",
            "addHolder PERSON 0; 9x pass 2000; pass 920 = 18920; giveForm 0 = 20000; pass 1080; isValid 0 = true");
        Run.of("a form of no such holder",
            "giveForm 0 throws Index; addHolder PERSON 0; addHolder COMPANY 0; giveForm -1 throws Index",
            "giveForm 2 throws Index; giveForm MIN throws Index; giveForm MAX throws Index",
            "isValid 0 = false; isValid 1 = false");
        Run.of("forms of the first and the last of 20 holders",
            "20x addHolder PERSON 0; giveForm 0 = 1080; pass 3; giveForm 19 = 1083; isValid 0 = true; isValid 1 = false",
            "isValid 18 = false; isValid 19 = true; pass 1078; isValid 0 = false; isValid 19 = true");
    }

    private static void days() {
        Run.of("days: 1 to 2000",
            "pass 1 = 1; day = 1; pass 2000 = 2001; day = 2001");
        Run.of("days below 1 and above 2000",
            "pass 5; pass 0 throws Argument; pass -1 throws Argument; pass 2001 throws Argument",
            "pass MIN throws Argument; pass MAX throws Argument; day = 5; pass 1 = 6");
        Run.of("to the day 20000 at the most, by 2000",
            "10x pass 2000; day = 20000; pass 1 throws State; pass 2000 throws State; day = 20000");
        Run.of("to the day 20000 at the most, by 1",
            "9x pass 2000; pass 1999 = 19999; pass 2 throws State; pass 2000 throws State; day = 19999",
            "pass 1 = 20000; pass 1 throws State; day = 20000");
        Run.of("to the day 20000 at the most, from the day 18001",
            "9x pass 2000; pass 1 = 18001; pass 2000 throws State; day = 18001; pass 1999 = 20000");
        Run.of("days out of range are named ahead of a day above 20000",
            "10x pass 2000; pass 0 throws Argument; pass -1 throws Argument; pass 2001 throws Argument",
            "pass MAX throws Argument; pass 1 throws State; day = 20000");
        Run.of("refused days let no form lapse and make no holding large",
            "addHolder COMPANY 0; giveForm 0; setShares 0 100000; pass 364; pass 2001 throws Argument",
            "isLarge 0 = false; pass 0 throws Argument; isLarge 0 = false; pass 716; pass 2001 throws Argument",
            "day = 1080; isValid 0 = true");
        Run.of("refused days out of range do not end this day",
            "addHolder COMPANY 0; setShares 0 100000; pass 364; setShares 0 99999; pass 0 throws Argument",
            "pass 2001 throws Argument; setShares 0 100000; pass 1 = 365; isLarge 0 = true; setShares 0 99999",
            "pass -1 throws Argument; setShares 0 100000; isLarge 0 = true");
        Run.of("refused days out of range are no days with enough shares",
            "addHolder COMPANY 0; setShares 0 100000; pass 0 throws Argument; setShares 0 99999; pass 1",
            "setShares 0 100000; pass 364 = 365; isLarge 0 = false; pass 1; isLarge 0 = true");
        Run.of("refused days above 20000 do not end this day",
            "addHolder COMPANY 0; 9x pass 2000; pass 1635 = 19635; setShares 0 99999; pass 1000 throws State",
            "setShares 0 100000; pass 365 = 20000; isLarge 0 = true; setShares 0 0; pass 1 throws State",
            "setShares 0 100000; isLarge 0 = true");
    }

    private static void isValid() {
        Run.of("of no such holder it cannot be told whether a form is valid",
            "addHolder PERSON 0; giveForm 0; isValid -1 throws Index; isValid 1 throws Index",
            "isValid MIN throws Index; isValid MAX throws Index; isValid 0 = true");
        Run.of("without a form none is valid, on the first day and later",
            "addHolder PERSON 0; isValid 0 = false; pass 1; isValid 0 = false; pass 2000; isValid 0 = false");
    }

    private static void largeByShares() {
        Run.of("100000 shares or more",
            "addHolder COMPANY 0; addHolder COMPANY 0; addHolder COMPANY 0; setShares 0 99999; setShares 1 100000",
            "setShares 2 800001; pass 365; isLarge 0 = false; isLarge 1 = true; isLarge 2 = true");
        Run.of("all 1000000 shares",
            "addHolder COMPANY 0; setShares 0 1000000; pass 365; isLarge 0 = true");
        Run.of("the holding of a company, of no person and no partnership",
            "addHolder PERSON 0; addHolder PARTNERSHIP NONE; addHolder COMPANY 0; setShares 0 300000",
            "setShares 1 300000; setShares 2 300000; pass 2000; isLarge 0 = false; isLarge 1 = false; isLarge 2 = true");
        Run.of("the company itself: shares of its partnership do not count",
            "addHolder PARTNERSHIP NONE; addHolder COMPANY 0; setParts 0 1 100; setShares 0 900000; setShares 1 99999",
            "pass 2000; isLarge 1 = false");
        Run.of("large holdings of no such holder",
            "addHolder COMPANY 0; setShares 0 100000; pass 365; isLarge -1 throws Index; isLarge 1 throws Index",
            "isLarge MIN throws Index; isLarge MAX throws Index; isLarge 0 = true");
        Run.of("without shares it is never large",
            "addHolder COMPANY 0; isLarge 0 = false; pass 365; isLarge 0 = false; pass 2000; isLarge 0 = false");
        Run.of("ten companies at once",
            "20x addHolder COMPANY 0; setShares 0 100000; setShares 2 100000; setShares 4 100000; setShares 6 100000",
            "setShares 8 100000; setShares 10 100000; setShares 12 100000; setShares 14 100000; setShares 16 100000",
            "setShares 19 100000; pass 365; isLarge 0 = true; isLarge 1 = false; isLarge 16 = true; isLarge 19 = true");
    }

    private static void largeByDays() {
        Run.of("on each of the 365 days ahead, from the day 0 on",
            "addHolder COMPANY 0; setShares 0 100000; pass 364 = 364; isLarge 0 = false; pass 1; isLarge 0 = true",
            "pass 1; isLarge 0 = true; pass 2000; isLarge 0 = true");
        Run.of("on each of the 365 days ahead, from a later day on",
            "addHolder COMPANY 0; pass 1000; setShares 0 100000; pass 364; isLarge 0 = false; pass 1; isLarge 0 = true");
        Run.of("on each of the 365 days ahead, day by day",
            "addHolder COMPANY 0; setShares 0 100000; 364x pass 1; isLarge 0 = false; pass 1 = 365; isLarge 0 = true");
        Run.of("the days ahead of day 0 count as days without shares",
            "addHolder COMPANY 0; setShares 0 1000000; isLarge 0 = false; pass 1; isLarge 0 = false; pass 363 = 364",
            "isLarge 0 = false");
        Run.of("the days ahead of the day on which the holder came are without shares, too",
            "pass 500; addHolder COMPANY 0; setShares 0 1000000; isLarge 0 = false; pass 364; isLarge 0 = false",
            "pass 1; isLarge 0 = true");
        Run.of("the first of the 365 days counts",
            "addHolder COMPANY 0; pass 1; setShares 0 100000; pass 364 = 365; isLarge 0 = false");
        Run.of("the day ahead of the 365 days does not count",
            "addHolder COMPANY 0; pass 1; setShares 0 100000; pass 365 = 366; isLarge 0 = true");
        Run.of("on this day, too",
            "addHolder COMPANY 0; setShares 0 100000; pass 365; setShares 0 99999; isLarge 0 = false",
            "setShares 0 100000; isLarge 0 = true; setShares 0 0; isLarge 0 = false");
        Run.of("large up to the day 20000",
            "addHolder COMPANY 0; 9x pass 2000; pass 1635 = 19635; setShares 0 100000; pass 364; isLarge 0 = false",
            "pass 1 = 20000; isLarge 0 = true");
    }

    private static void largeByEndsOfDays() {
        Run.of("one day in between that ends with 99999",
            "addHolder COMPANY 0; setShares 0 100000; pass 200; setShares 0 99999; pass 1; setShares 0 100000",
            "pass 164 = 365; isLarge 0 = false; pass 200 = 565; isLarge 0 = false; pass 1 = 566; isLarge 0 = true");
        Run.of("the day ahead of this one that ended with 99999",
            "addHolder COMPANY 0; setShares 0 100000; pass 364; setShares 0 99999; pass 1; setShares 0 100000",
            "isLarge 0 = false; pass 364; isLarge 0 = false; pass 1; isLarge 0 = true");
        Run.of("as of each day the shares at its end count: fewer within it do not matter",
            "addHolder COMPANY 0; setShares 0 100000; pass 100; setShares 0 0; setShares 0 99999; setShares 0 100000",
            "pass 265; isLarge 0 = true");
        Run.of("as of each day the shares at its end count: more within it do not matter",
            "addHolder COMPANY 0; setShares 0 100000; pass 1; setShares 0 99999; setShares 0 200000; setShares 0 99999",
            "pass 1; setShares 0 100000; pass 363 = 365; isLarge 0 = false; pass 1; isLarge 0 = false; pass 1",
            "isLarge 0 = true");
        Run.of("of the days that pass at once each ends with the shares of the first",
            "addHolder COMPANY 0; setShares 0 100000; pass 10; setShares 0 99999; pass 2000; setShares 0 100000",
            "isLarge 0 = false; pass 364; isLarge 0 = false; pass 1; isLarge 0 = true");
        Run.of("shares that change and stay enough",
            "addHolder COMPANY 0; setShares 0 1000000; pass 100; setShares 0 100000; pass 100; setShares 0 500000",
            "pass 164; isLarge 0 = false; pass 1 = 365; isLarge 0 = true");
        Run.of("of this day those of now: bought now is not enough",
            "addHolder COMPANY 0; setShares 0 99999; pass 365; setShares 0 100000; isLarge 0 = false; pass 364",
            "isLarge 0 = false; pass 1; isLarge 0 = true");
        Run.of("refused shares do not end a large holding",
            "addHolder COMPANY 0; setShares 0 100000; pass 365; setShares 0 -1 throws Argument",
            "setShares 0 1000001 throws Argument; isLarge 0 = true; pass 1; isLarge 0 = true");
    }

    private static void rates() {
        Run.of("the treaty rate is the general rate of the land: of the first and the last land",
            "addHolder PERSON 0; addHolder COMPANY 5; setTreaty 0 3 1; setTreaty 5 4 2; treatyRate 0 = 3",
            "treatyRate 1 = 4; setTreaty 0 0 0; treatyRate 0 = 0; treatyRate 1 = 4");
        Run.of("the rate for large holdings, if that is less",
            "addHolder COMPANY 1; setShares 0 100000; pass 365; setTreaty 1 10 9; treatyRate 0 = 9",
            "setTreaty 1 10 10; treatyRate 0 = 10; setTreaty 1 10 11; treatyRate 0 = 10; setTreaty 1 0 30",
            "treatyRate 0 = 0; setTreaty 1 30 0; treatyRate 0 = 0");
        Run.of("with a large holding on this day",
            "addHolder COMPANY 1; setTreaty 1 10 5; setShares 0 100000; pass 364; treatyRate 0 = 10; pass 1",
            "treatyRate 0 = 5; setShares 0 99999; treatyRate 0 = 10; setShares 0 100000; treatyRate 0 = 5");
        Run.of("a person has the general rate with any shares",
            "addHolder PERSON 1; setTreaty 1 10 5; setShares 0 1000000; pass 2000; treatyRate 0 = 10");
        Run.of("a partnership has no treaty rate",
            "addHolder PARTNERSHIP NONE; addHolder PERSON 0; setParts 0 1 1; treatyRate 0 throws Argument",
            "giveForm 0; setShares 0 100000; pass 365; treatyRate 0 throws Argument");
        Run.of("a treaty rate of no such holder",
            "addHolder PERSON 0; treatyRate -1 throws Index; treatyRate 1 throws Index; treatyRate MIN throws Index",
            "treatyRate MAX throws Index; treatyRate 0 = 30");
    }

    private static void runsOf512Calls() {
        Run.of("an object is used for 512 calls: days", "addHolder PERSON 0; giveForm 0; 509x pass 1; day = 509");
        Run.of("an object is used for 512 calls: changes within a day",
            "addHolder COMPANY 0; 255x setShares 0 1; 255x setShares 0 2; shares 0 = 2");
        Run.of("an object is used for 512 calls: refused ones",
            "20x addHolder COMPANY 0; 491x addHolder COMPANY 0 throws State; shares 19 = 0");
    }
}
