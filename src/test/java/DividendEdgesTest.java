/** Each sentence of the document that names a boundary of dividends and of tax, by a run of its own. */
public final class DividendEdgesTest {
    /** A partnership 0 with the members 1 (land 1, 3 parts), 2 (land 2, 2 parts) and 3 (land 3, 2 parts). */
    private static final String PARTNERS = "setTreaty 1 10 5; setTreaty 2 20 5; setTreaty 3 0 0;"
        + "addHolder PARTNERSHIP NONE; addHolder PERSON 1; addHolder COMPANY 2; addHolder PERSON 3;"
        + "setParts 0 1 3; setParts 0 2 2; setParts 0 3 2";
    /** A partnership 0 with 19 members with 100 parts each. */
    private static final String MOST_PARTNERS = "addHolder PARTNERSHIP NONE; 19x addHolder PERSON 0;"
        + "setParts 0 1 100; setParts 0 2 100; setParts 0 3 100; setParts 0 4 100; setParts 0 5 100;"
        + "setParts 0 6 100; setParts 0 7 100; setParts 0 8 100; setParts 0 9 100; setParts 0 10 100;"
        + "setParts 0 11 100; setParts 0 12 100; setParts 0 13 100; setParts 0 14 100; setParts 0 15 100;"
        + "setParts 0 16 100; setParts 0 17 100; setParts 0 18 100; setParts 0 19 100";

    public static void main(String[] args) {
        cents();
        nobodyHasShares();
        numbersOfDividends();
        gross();
        heldIsRoundedDown();
        heldByForms();
        heldOfLargeHoldings();
        membersGetTheirParts();
        whatIsLeft();
        heldOfPartnerships();
        due();
        dueOfThePayDay();
        noSuchDividendOrHolder();
        sums();
        runsOf512Calls();
        Check.end("DividendEdgesTest");
    }

    private static void cents() {
        Run.of("cents: 1 to 1000",
            "addHolder PERSON 0; setShares 0 7; pay 1 = 0; pay 1000 = 1; gross 0 0 = 7; gross 1 0 = 7000");
        Run.of("cents below 1 and above 1000",
            "addHolder PERSON 0; setShares 0 7; pay 2; pay 0 throws Argument; pay -1 throws Argument",
            "pay 1001 throws Argument; pay MIN throws Argument; pay MAX throws Argument; dividends = 1",
            "gross 1 0 throws Index; heldInAll = 4; pay 1000 = 1");
        Run.of("cents out of range are named ahead of nobody with shares",
            "pay 0 throws Argument; pay 1001 throws Argument; addHolder PERSON 0; pay 0 throws Argument",
            "pay 1001 throws Argument; pay 1 throws State");
        Run.of("cents out of range are named ahead of 40 dividends",
            "addHolder PERSON 0; setShares 0 1; 40x pay 1; pay 0 throws Argument; pay 1001 throws Argument",
            "pay 1 throws State; dividends = 40");
    }

    private static void nobodyHasShares() {
        Run.of("nobody has shares: no holder is there", "pay 1 throws State; pay 1000 throws State; dividends = 0");
        Run.of("nobody has shares: 20 holders without",
            "10x addHolder PERSON 0; 10x addHolder PARTNERSHIP NONE; pay 1 throws State; dividends = 0",
            "setShares 19 1; pay 1 = 0; setShares 19 0; pay 1 throws State; setShares 0 1; pay 1 = 1; dividends = 2");
        Run.of("nobody has shares: all were sold on this day",
            "addHolder COMPANY 0; setShares 0 1000000; pass 9; setShares 0 0; pay 5 throws State; dividends = 0",
            "setShares 0 1; pay 5 = 0; gross 0 0 = 5");
    }

    private static void numbersOfDividends() {
        Run.of("dividends are numbered from 0, on one day, too",
            "addHolder PERSON 0; setShares 0 1; dividends = 0; pay 1 = 0; dividends = 1; pay 1 = 1; pass 1; pay 1 = 2",
            "dividends = 3");
        Run.of("there are at most 40",
            "addHolder PERSON 0; setShares 0 1; 39x pay 10; pay 1000 = 39; pay 1 throws State; pay 1000 throws State",
            "dividends = 40; gross 39 0 = 1000; gross 40 0 throws Index; pass 2000; pay 1 throws State");
        Run.of("a refused dividend takes no number",
            "addHolder PERSON 0; pay 1 throws State; setShares 0 1; pay 0 throws Argument; pay 1 = 0",
            "pay 1001 throws Argument; pay 1 = 1");
    }

    private static void gross() {
        Run.of("gross is shares * cents, at its least",
            "addHolder PERSON 0; setShares 0 1; pay 1; gross 0 0 = 1; held 0 0 = 0; due 0 0 = 0");
        Run.of("gross is shares * cents, at its greatest",
            "addHolder PERSON 0; setShares 0 1000000; pay 1000; gross 0 0 = 1000000000; held 0 0 = 300000000",
            "due 0 0 = 300000000; heldInAll = 300000000");
        Run.of("it is paid to all holders with shares: the first and the last of 20",
            "20x addHolder PERSON 0; setShares 0 1; setShares 19 2; pay 500; gross 0 0 = 500; gross 0 19 = 1000",
            "gross 0 1 = 0; gross 0 18 = 0; held 0 0 = 150; held 0 19 = 300; held 0 1 = 0; due 0 18 = 0",
            "heldInAll = 450");
        Run.of("gross is 0 if it had no shares",
            "addHolder PERSON 0; addHolder PERSON 0; addHolder PARTNERSHIP NONE; setShares 1 10; pay 10",
            "gross 0 0 = 0; gross 0 1 = 100; gross 0 2 = 0; held 0 0 = 0; held 0 2 = 0; due 0 0 = 0; due 0 2 = 0");
        Run.of("gross is 0 if it had no shares: shares that came when it was paid already",
            "addHolder PERSON 0; addHolder PERSON 0; setShares 1 10; pay 10; setShares 0 10; gross 0 0 = 0",
            "held 0 0 = 0; due 0 0 = 0; addHolder PERSON 0; setShares 2 10; gross 0 2 = 0; held 0 2 = 0; due 0 2 = 0");
        Run.of("gross stays when the shares are sold",
            "addHolder PERSON 0; setShares 0 10; pay 10; setShares 0 0; gross 0 0 = 100; held 0 0 = 30; due 0 0 = 30",
            "pass 2000; gross 0 0 = 100; held 0 0 = 30; due 0 0 = 30");
    }

    private static void heldIsRoundedDown() {
        Run.of("gross * rate / 100 is rounded down, at the full rate",
            "addHolder PERSON 0; setShares 0 1; pay 3; pay 4; pay 6; pay 7; pay 10; pay 333; pay 334; held 0 0 = 0",
            "held 1 0 = 1; held 2 0 = 1; held 3 0 = 2; held 4 0 = 3; held 5 0 = 99; held 6 0 = 100; due 5 0 = 99");
        Run.of("gross * rate / 100 is rounded down, at the rate 1",
            "addHolder PERSON 0; setTreaty 0 1 1; setShares 0 1; giveForm 0; pay 99; pay 100; pay 199; pay 200",
            "held 0 0 = 0; held 1 0 = 1; held 2 0 = 1; held 3 0 = 2; due 0 0 = 0; due 2 0 = 1");
        Run.of("gross * rate / 100 is rounded down, at the rate 29",
            "addHolder PERSON 0; setTreaty 0 29 1; setShares 0 1; giveForm 0; pay 3; pay 4; pay 103; pay 104",
            "held 0 0 = 0; held 1 0 = 1; held 2 0 = 29; held 3 0 = 30; due 2 0 = 29; due 3 0 = 30");
        Run.of("gross * rate / 100 with the rate 0",
            "addHolder PERSON 0; setTreaty 0 0 30; setShares 0 1000000; giveForm 0; pay 1000; held 0 0 = 0",
            "due 0 0 = 0; heldInAll = 0");
        Run.of("gross * rate / 100 with the greatest gross less 1000",
            "addHolder PERSON 0; setTreaty 0 29 1; setShares 0 999999; giveForm 0; pay 1000; pay 999",
            "held 0 0 = 289999710; held 1 0 = 289709710");
    }

    private static void heldByForms() {
        String holder = "addHolder PERSON 1; setTreaty 1 15 5; setShares 0 100";
        Run.of("the treaty rate, if a form is valid: on the day of the form", holder,
            "giveForm 0; pay 10; held 0 0 = 150");
        Run.of("the treaty rate, if a form is valid: on its last day", holder,
            "giveForm 0; pass 1080; pay 10; held 0 0 = 150");
        Run.of("otherwise the full rate: on the day behind its last day", holder,
            "giveForm 0; pass 1081; pay 10; held 0 0 = 300; due 0 0 = 150");
        Run.of("otherwise the full rate: without a form", holder, "pay 10; held 0 0 = 300; due 0 0 = 150");
        Run.of("otherwise the full rate: with a form given when it was paid already", holder,
            "pay 10; giveForm 0; held 0 0 = 300; heldInAll = 300; pass 1; held 0 0 = 300");
        Run.of("what is held stays when the form lapses", holder,
            "giveForm 0; pay 10; pass 1081; held 0 0 = 150; heldInAll = 150");
        Run.of("a form of another holder does not matter", holder,
            "addHolder PERSON 1; giveForm 1; pay 10; held 0 0 = 300");
        Run.of("the treaty of the pay day: set on this day ahead of it", holder,
            "giveForm 0; pass 5; setTreaty 1 7 7; pay 10; setTreaty 1 8 8; held 0 0 = 70; due 0 0 = 70");
    }

    private static void heldOfLargeHoldings() {
        String company = "addHolder COMPANY 1; setTreaty 1 15 5; setShares 0 100000; giveForm 0";
        Run.of("a large holding on the 365th day", company,
            "pass 364; pay 1; pass 1; pay 1; held 0 0 = 15000; held 1 0 = 5000; due 0 0 = 15000; due 1 0 = 5000");
        Run.of("a large holding with 99999 shares now", company,
            "pass 365; setShares 0 99999; pay 1; setShares 0 100000; pay 1; held 0 0 = 14999; held 1 0 = 5000");
        Run.of("a large holding without a form", company,
            "pass 1081; pay 1; held 0 0 = 30000; due 0 0 = 5000");
        Run.of("the rate for large holdings is not less", company,
            "pass 365; setTreaty 1 15 15; pay 1; setTreaty 1 15 16; pay 1; held 0 0 = 15000; held 1 0 = 15000",
            "due 1 0 = 15000");
    }

    private static void membersGetTheirParts() {
        String two = "addHolder PERSON 1; addHolder PARTNERSHIP NONE; addHolder COMPANY 2; setTreaty 1 10 0;"
            + "setTreaty 2 20 0; giveForm 0; giveForm 1; giveForm 2";
        Run.of("a member with one part of one gets all", two,
            "setParts 1 0 1; setShares 1 1; pay 99; held 0 1 = 9; setShares 1 1000000; pay 1000; held 1 1 = 100000000");
        Run.of("a member with 100 parts of 100 gets all", two,
            "setParts 1 2 100; setShares 1 1; pay 99; held 0 1 = 19; setShares 1 1000000; pay 1000",
            "held 1 1 = 200000000; due 1 1 = 200000000");
        Run.of("gross * parts at its greatest, divided in halves", two,
            "setParts 1 0 100; setParts 1 2 100; setShares 1 1000000; pay 1000; held 0 1 = 150000000");
        Run.of("1 and 100 parts", two,
            "setParts 1 0 1; setParts 1 2 100; setShares 1 101; pay 100; held 0 1 = 2010",
            "setShares 1 1000000; pay 1000; held 1 1 = 199009900; due 1 1 = 199009900");
        Run.of("100 parts and 1", two,
            "setParts 1 0 100; setParts 1 2 1; setShares 1 101; pay 100; held 0 1 = 1020",
            "setShares 1 1000000; pay 1000; held 1 1 = 100990099");
        Run.of("19 members with 100 parts each, at the full rate", MOST_PARTNERS,
            "setShares 0 1000000; pay 1000; held 0 0 = 299999992; due 0 0 = 299999992; heldInAll = 299999992");
        Run.of("19 members with 100 parts each, by treaty", MOST_PARTNERS,
            "setTreaty 0 10 0; setShares 0 1000000; pay 1000; held 0 0 = 299999992; due 0 0 = 99999985");
        Run.of("only members with parts: 0 parts get nothing", two,
            "setParts 1 0 5; setParts 1 2 5; setParts 1 0 0; setShares 1 1; pay 100; held 0 1 = 20; setParts 1 0 1",
            "setParts 1 2 0; pay 100; held 1 1 = 10");
        Run.of("members get nothing of it as holders", two,
            "setParts 1 0 1; setShares 1 1; pay 100; gross 0 0 = 0; held 0 0 = 0; due 0 0 = 0; gross 0 1 = 100",
            "heldInAll = 10");
    }

    private static void whatIsLeft() {
        String two = "addHolder PERSON 1; addHolder PERSON 2; addHolder PARTNERSHIP NONE; addHolder PERSON 3;"
            + "setTreaty 1 10 0; setTreaty 2 20 0; setTreaty 3 0 0; giveForm 0; giveForm 1; giveForm 2; giveForm 3;"
            + "setShares 2 1";
        Run.of("nothing is left", two,
            "setParts 2 0 1; setParts 2 1 1; pay 20; held 0 2 = 3; setParts 2 0 99; setParts 2 1 1; pay 1000",
            "held 1 2 = 101");
        Run.of("one cent is left, for the lowest number", two,
            "setParts 2 0 1; setParts 2 1 1; pay 19; held 0 2 = 2; pay 29; held 1 2 = 3; pay 21; held 2 2 = 3");
        Run.of("the lowest number that has parts, not the first holder", two,
            "setParts 2 1 1; setParts 2 3 1; pay 9; held 0 2 = 1; pay 10; held 1 2 = 1; pay 19; held 2 2 = 2");
        Run.of("the lowest number that has parts, not the one that had them", two,
            "setParts 2 0 7; setParts 2 1 1; setParts 2 3 1; setParts 2 0 0; pay 9; held 0 2 = 1");
        Run.of("the lowest number, not the first with parts nor that with the most", two,
            "setParts 2 3 99; setParts 2 1 99; setParts 2 0 1; pay 100; held 0 2 = 9; due 0 2 = 9");
        Run.of("all of a gross below the parts is left: 18 of 19 members",
            MOST_PARTNERS, "setShares 0 1; pay 18; held 0 0 = 5; pay 4; held 1 0 = 1; pay 3; held 2 0 = 0");
        Run.of("each of 19 members gets one cent, and nothing is left",
            MOST_PARTNERS, "setShares 0 1; pay 19; gross 0 0 = 19; held 0 0 = 0; pay 38; held 1 0 = 0; pay 76",
            "held 2 0 = 19");
        Run.of("18 cents are left besides one cent for each of 19 members",
            MOST_PARTNERS, "setShares 0 1; pay 37; held 0 0 = 5; pay 20; held 1 0 = 0; pay 22; held 2 0 = 1");
        Run.of("a gross of one cent", two,
            "setTreaty 1 30 30; setTreaty 2 30 30; setParts 2 0 1; setParts 2 1 1; pay 1; held 0 2 = 0; due 0 2 = 0");
    }

    private static void heldOfPartnerships() {
        String shares = PARTNERS + "; setShares 0 7";
        Run.of("the form of the partnership is not valid: the full rate of each share", shares,
            "giveForm 1; giveForm 2; giveForm 3; pay 100; held 0 0 = 210; pay 10; held 1 0 = 21; pay 7; held 2 0 = 14");
        Run.of("the form of the partnership on its last day", shares,
            "giveForm 0; pass 1; giveForm 1; giveForm 2; giveForm 3; pass 1079; pay 100; held 0 0 = 70; pass 1",
            "pay 100; held 1 0 = 210; due 1 0 = 70");
        Run.of("a member's form on its last day", shares,
            "giveForm 1; pass 1; giveForm 0; pass 1079; pay 100; held 0 0 = 150; pass 1; pay 100; held 1 0 = 210");
        Run.of("with no member's form each share has the full rate", shares,
            "giveForm 0; pay 100; held 0 0 = 210; due 0 0 = 70");
        Run.of("with all members' forms each share has the rate of its land", shares,
            "giveForm 0; giveForm 1; giveForm 2; giveForm 3; pay 100; held 0 0 = 70; pay 1; held 1 0 = 0; due 1 0 = 0");
        Run.of("a form given when it was paid already", shares,
            "giveForm 1; pay 100; giveForm 0; held 0 0 = 210; pay 100; giveForm 2; held 1 0 = 150");
        Run.of("a partnership without members: of all by the full rate",
            "addHolder PARTNERSHIP NONE; setShares 0 1; giveForm 0; pay 10; held 0 0 = 3; due 0 0 = 3; pay 333",
            "held 1 0 = 99; setShares 0 1000000; pay 1000; held 2 0 = 300000000; due 2 0 = 300000000");
        Run.of("a partnership whose members have no parts any more: of all by the full rate", shares,
            "setParts 0 1 0; setParts 0 2 0; setParts 0 3 0; giveForm 0; giveForm 1; giveForm 2; giveForm 3; pay 2",
            "held 0 0 = 4; due 0 0 = 4; gross 0 0 = 14");
        Run.of("a member's own holding is never a large holding here", shares,
            "setShares 2 100000; giveForm 0; giveForm 2; pass 365; isLarge 2 = true; pay 100; held 0 0 = 190",
            "held 0 2 = 500000; due 0 0 = 70; due 0 2 = 500000");
        Run.of("two partnerships with one member",
            "addHolder PARTNERSHIP NONE; addHolder PERSON 1; addHolder PARTNERSHIP NONE; setTreaty 1 10 0",
            "setParts 0 1 1; setParts 2 1 100; setShares 0 1; setShares 2 1; giveForm 1; giveForm 2; pay 100",
            "held 0 0 = 30; held 0 2 = 10; due 0 0 = 10; due 0 2 = 10; heldInAll = 40");
    }

    private static void due() {
        Run.of("the due tax is as if all forms had been valid: without any",
            "addHolder PERSON 1; addHolder COMPANY 2; setTreaty 1 15 5; setTreaty 2 0 0; setShares 0 101",
            "setShares 1 101; pay 10; due 0 0 = 151; due 0 1 = 0; held 0 0 = 303; held 0 1 = 303");
        Run.of("the due tax is the held tax with all forms",
            "addHolder PERSON 1; setTreaty 1 15 5; setShares 0 101; giveForm 0; pay 10; due 0 0 = 151; held 0 0 = 151");
        Run.of("the due tax of a treaty of 30 is all that is held",
            "addHolder PERSON 1; setShares 0 101; pay 10; due 0 0 = 303; held 0 0 = 303");
        Run.of("the due tax of a partnership: each share by its member's rate",
            PARTNERS, "setShares 0 1; pay 100; due 0 0 = 9; pay 99; due 1 0 = 9; pay 10; due 2 0 = 0; pay 15; due 3 0 = 0");
    }

    private static void dueOfThePayDay() {
        Run.of("treaties are those of the pay day, as they were when it was paid",
            "addHolder PERSON 1; setTreaty 1 15 5; setShares 0 100; pay 10; setTreaty 1 0 0; due 0 0 = 150; pass 1",
            "due 0 0 = 150; pay 10; due 1 0 = 0; setTreaty 1 30 30; due 1 0 = 0; due 0 0 = 150");
        Run.of("shares are those of the pay day, as they were when it was paid",
            "addHolder PERSON 1; setShares 0 100; pay 10; setShares 0 200; due 0 0 = 300; held 0 0 = 300; pay 10",
            "due 1 0 = 600; setShares 0 0; due 0 0 = 300; due 1 0 = 600");
        Run.of("members and parts are those of the pay day, as they were when it was paid",
            PARTNERS, "setShares 0 7; pay 100; setParts 0 1 0; setParts 0 2 100; due 0 0 = 70; held 0 0 = 210",
            "addHolder PERSON 4; setParts 0 4 100; due 0 0 = 70; pass 1; due 0 0 = 70; gross 0 0 = 700");
        Run.of("a partnership without members on the pay day",
            "addHolder PARTNERSHIP NONE; addHolder PERSON 1; setTreaty 1 0 0; setShares 0 10; pay 10; setParts 0 1 1",
            "due 0 0 = 30; pay 10; due 1 0 = 0; setParts 0 1 0; due 1 0 = 0");
        Run.of("a large holding on the pay day, and none later",
            "addHolder COMPANY 1; setTreaty 1 15 5; setShares 0 100000; pass 365; pay 1; setShares 0 99999",
            "due 0 0 = 5000; pass 1; due 0 0 = 5000");
        Run.of("no large holding on the pay day, but one later",
            "addHolder COMPANY 1; setTreaty 1 15 5; setShares 0 100000; pass 364; pay 1; pass 1; due 0 0 = 15000",
            "isLarge 0 = true");
    }

    private static void noSuchDividendOrHolder() {
        String three = "addHolder PERSON 0; addHolder PERSON 0; addHolder PARTNERSHIP NONE; setShares 0 10;"
            + "setShares 2 20; pay 10; pay 20";
        for (String call : new String[] {"gross", "held", "due"}) {
            String c = call + " ";
            Run.of(call + ": no such dividend", three,
                c + "-1 0 throws Index;" + c + "2 0 throws Index;" + c + "MIN 0 throws Index;" + c + "MAX 0 throws Index",
                c + "0 0;" + c + "1 2");
            Run.of(call + ": no such holder", three,
                c + "0 -1 throws Index;" + c + "0 3 throws Index;" + c + "1 MIN throws Index;" + c + "1 MAX throws Index",
                c + "-1 3 throws Index;" + c + "0 2;" + c + "1 0");
            Run.of(call + ": the last holder of 20 for the last dividend of 40",
                "20x addHolder PERSON 0; setShares 19 100; 39x pay 1; pay 10;" + c + "39 19;" + c + "39 0 = 0",
                c + "40 19 throws Index;" + c + "39 20 throws Index;" + c + "40 20 throws Index;" + c + "0 0 = 0");
        }
        Run.of("gross, held and due of the last holder for the last dividend",
            "20x addHolder PERSON 0; setTreaty 0 10 10; setShares 19 100; 39x pay 1; pay 10; gross 39 19 = 1000",
            "held 39 19 = 300; due 39 19 = 100; gross 38 19 = 100; held 0 19 = 30; due 0 19 = 10");
    }

    private static void sums() {
        Run.of("all tax that is held: nothing yet", "heldInAll = 0; addHolder PERSON 0; setShares 0 1; heldInAll = 0");
        Run.of("all tax that is held, at its greatest",
            "addHolder PERSON 0; setShares 0 1000000; 7x pay 1000; heldInAll = 2100000000; pay 1000",
            "heldInAll = 2400000000; 32x pay 1000; heldInAll = 12000000000; refunded = 0");
        Run.of("all tax that is held, by 20 holders",
            "20x addHolder PERSON 0; setShares 0 3; setShares 7 4; setShares 19 7; pay 1; heldInAll = 3; pay 10",
            "heldInAll = 45; held 0 0 = 0; held 0 7 = 1; held 0 19 = 2");
        Run.of("all that was refunded, at its greatest",
            "addHolder PERSON 0; setTreaty 0 0 0; setShares 0 1000000; 40x pay 1000; giveForm 0",
            "refund 0 0 = 300000000; claim 1 0 = 300000000; refund 2 0; refund 3 0; refund 4 0; refund 5 0; refund 6 0",
            "refunded = 2100000000; refund 7 0; refunded = 2400000000; claim 8 0; claim 9 0; claim 10 0; claim 11 0",
            "claim 12 0; claim 13 0; claim 14 0; claim 15 0; claim 16 0; claim 17 0; claim 18 0; claim 19 0; claim 20 0",
            "claim 21 0; claim 22 0; claim 23 0; claim 24 0; claim 25 0; claim 26 0; claim 27 0; claim 28 0; claim 29 0",
            "claim 30 0; claim 31 0; claim 32 0; claim 33 0; claim 34 0; claim 35 0; claim 36 0; claim 37 0; claim 38 0",
            "heldInAll = 300000000; claim 39 0 = 300000000; refunded = 12000000000; heldInAll = 0; refund 39 0 = 0");
    }

    private static void runsOf512Calls() {
        Run.of("an object is used for 512 calls: 40 dividends of 20 holders", MOST_PARTNERS,
            "setShares 0 1000000; 40x pay 1000; 216x held 39 0 = 299999992; 214x due 0 0 = 299999992",
            "heldInAll = 11999999680; heldInAll = 11999999680");
    }
}
