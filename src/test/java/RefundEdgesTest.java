/** Each sentence of the document that names a boundary of refunds and claims, by a run of its own. */
public final class RefundEdgesTest {
    /** A person 0 of land 1 gets 1010 cents, of which 303 are held and 151 are due. */
    private static final String PERSON = "setTreaty 1 15 5; addHolder PERSON 1; setShares 0 101";
    /** A partnership 0 with the members 1 (land 1, 3 parts), 2 (land 2, 2 parts) and 3 (land 3, 2 parts). */
    private static final String PARTNERS = "setTreaty 1 10 5; setTreaty 2 20 5; setTreaty 3 0 0;"
        + "addHolder PARTNERSHIP NONE; addHolder PERSON 1; addHolder COMPANY 2; addHolder PERSON 3;"
        + "setParts 0 1 3; setParts 0 2 2; setParts 0 3 2; setShares 0 7";

    public static void main(String[] args) {
        refundInTime();
        refundByFormsOfToday();
        refundByFormsOfThePayDay();
        refundByMembers();
        refundByTermsOfThePayDay();
        refundRefused();
        claimInTime();
        claimByForms();
        claimOfPartnerships();
        claimRefused();
        noSuchDividendOrHolder();
        noLongerHeld();
        runsOf512Calls();
        Check.end("RefundEdgesTest");
    }

    private static void refundInTime() {
        Run.of("a quick refund on the pay day", PERSON, "pay 10; giveForm 0; refund 0 0 = 152; held 0 0 = 151");
        Run.of("a quick refund 60 days behind the pay day", PERSON,
            "pay 10; pass 60; giveForm 0; refund 0 0 = 152; held 0 0 = 151");
        Run.of("no quick refund 61 days behind the pay day", PERSON,
            "pay 10; pass 61; giveForm 0; refund 0 0 throws State; held 0 0 = 303; refunded = 0; claim 0 0 = 152");
        Run.of("a quick refund 60 days behind a later pay day", PERSON,
            "pay 10; pass 500; pay 10; pass 60; giveForm 0; refund 0 0 throws State; refund 1 0 = 152; pass 1",
            "refund 1 0 throws State; refunded = 152");
        Run.of("a quick refund on the day 20000", PERSON,
            "9x pass 2000; pass 1939 = 19939; pay 10; pass 1 = 19940; pay 10; pass 60 = 20000; giveForm 0",
            "refund 0 0 throws State; refund 1 0 = 152");
        Run.of("0 is refunded up to 60 days behind the pay day, too", PERSON,
            "pay 10; refund 0 0 = 0; pass 60; refund 0 0 = 0; pass 1; refund 0 0 throws State");
    }

    private static void refundByFormsOfToday() {
        Run.of("a form that is valid today: on its last day", PERSON,
            "giveForm 0; pass 1081; pay 10; held 0 0 = 303; giveForm 0; pass 60; refund 0 0 = 152");
        Run.of("a form that was given behind the pay day and is valid today", PERSON,
            "pay 10; pass 30; giveForm 0; pass 30; refund 0 0 = 152");
        Run.of("a form that has lapsed does not count", PERSON,
            "giveForm 0; pass 1081; pay 10; refund 0 0 = 0; pass 60; refund 0 0 = 0; held 0 0 = 303");
        Run.of("a form of another holder does not count", PERSON,
            "addHolder PERSON 1; pay 10; giveForm 1; refund 0 0 = 0; held 0 0 = 303");
        Run.of("without a form 0 is refunded", PERSON, "pay 10; refund 0 0 = 0; held 0 0 = 303; refunded = 0");
        Run.of("by a treaty of 30 nothing is refunded",
            "addHolder PERSON 1; setShares 0 101; pay 10; giveForm 0; refund 0 0 = 0; held 0 0 = 303");
        Run.of("by a treaty of 0 all is refunded, at its greatest",
            "addHolder PERSON 1; setTreaty 1 0 0; setShares 0 1000000; pay 1000; giveForm 0; refund 0 0 = 300000000",
            "held 0 0 = 0; refund 0 0 = 0; refunded = 300000000; heldInAll = 0");
        Run.of("the smallest refund",
            "addHolder PERSON 1; setTreaty 1 29 0; setShares 0 1; pay 10; pay 11; giveForm 0; refund 0 0 = 1",
            "refund 1 0 = 0; refunded = 1");
    }

    private static void refundByFormsOfThePayDay() {
        Run.of("besides those that were: the form that was valid on the pay day alone", PERSON,
            "giveForm 0; pass 1080; pay 10; held 0 0 = 151; pass 1; isValid 0 = false; refund 0 0 = 0; held 0 0 = 151");
        Run.of("besides those that were: the partnership's, with a member's of today", PARTNERS,
            "giveForm 0; pass 1080; pay 100; held 0 0 = 210; pass 1; isValid 0 = false; giveForm 1; refund 0 0 = 60",
            "held 0 0 = 150");
        Run.of("besides those that were: the members', with the partnership's of today", PARTNERS,
            "giveForm 1; giveForm 2; giveForm 3; pass 1080; pay 100; held 0 0 = 210; pass 60; isValid 1 = false",
            "giveForm 0; refund 0 0 = 140; held 0 0 = 70");
        Run.of("forms that were valid neither then nor today do not count", PARTNERS,
            "giveForm 1; giveForm 2; pass 1081; pay 100; giveForm 0; giveForm 3; refund 0 0 = 60; held 0 0 = 150");
        Run.of("a form that ends between does not count by itself", PARTNERS,
            "giveForm 1; pass 1080; pay 100; pass 1; refund 0 0 = 0; giveForm 0; refund 0 0 = 60; held 0 0 = 150");
    }

    private static void refundByMembers() {
        Run.of("without the partnership's form nothing is refunded", PARTNERS,
            "pay 100; giveForm 1; giveForm 2; giveForm 3; refund 0 0 = 0; giveForm 0; refund 0 0 = 140; held 0 0 = 70");
        Run.of("the partnership's form alone refunds nothing", PARTNERS,
            "pay 100; giveForm 0; refund 0 0 = 0; giveForm 1; refund 0 0 = 60; giveForm 2; refund 0 0 = 20",
            "giveForm 3; refund 0 0 = 60; refund 0 0 = 0; held 0 0 = 70; refunded = 140");
        Run.of("the members that it had on the pay day: one that has no parts today", PARTNERS,
            "pay 100; setParts 0 1 0; pass 1; giveForm 0; giveForm 1; refund 0 0 = 60; held 0 0 = 150");
        Run.of("the members that it had on the pay day: not one that came later", PARTNERS,
            "addHolder PERSON 3; pay 100; setParts 0 4 100; pass 1; giveForm 0; giveForm 4; refund 0 0 = 0",
            "held 0 0 = 210; pay 100; held 1 0 = 12");
        Run.of("the members that it had on the pay day: parts that changed on that day later", PARTNERS,
            "pay 100; setParts 0 3 100; giveForm 0; giveForm 3; refund 0 0 = 60; held 0 0 = 150");
        Run.of("a partnership without members is refunded nothing",
            "addHolder PARTNERSHIP NONE; addHolder PERSON 1; setTreaty 1 0 0; setShares 0 1000000; pay 1000",
            "setParts 0 1 100; giveForm 0; giveForm 1; refund 0 0 = 0; claim 0 0 = 0; held 0 0 = 300000000");
        Run.of("each share is rounded down by itself", PARTNERS,
            "setShares 0 1; pay 100; held 0 0 = 29; giveForm 0; giveForm 1; refund 0 0 = 9; giveForm 2; refund 0 0 = 3",
            "giveForm 3; refund 0 0 = 8; held 0 0 = 9");
        Run.of("a member itself is refunded of its own shares alone", PARTNERS,
            "setShares 1 100; pay 10; giveForm 0; giveForm 1; refund 0 1 = 200; held 0 1 = 100; held 0 0 = 21",
            "refund 0 0 = 6; held 0 0 = 15");
    }

    private static void refundByTermsOfThePayDay() {
        Run.of("a quick refund by the treaty of the pay day", PERSON,
            "pay 10; setTreaty 1 0 0; giveForm 0; refund 0 0 = 152; pass 1; setTreaty 1 30 30; refund 0 0 = 0");
        Run.of("a quick refund by the shares of the pay day", PERSON,
            "pay 10; setShares 0 1000; giveForm 0; refund 0 0 = 152; held 0 0 = 151");
        Run.of("a quick refund when all shares are sold", PERSON,
            "pay 10; setShares 0 0; pass 60; giveForm 0; refund 0 0 = 152");
        Run.of("a quick refund by the large holding of the pay day",
            "setTreaty 1 15 5; addHolder COMPANY 1; setShares 0 100000; pass 364; pay 1; pass 1; pay 1",
            "setShares 0 0; giveForm 0; refund 0 0 = 15000; refund 1 0 = 25000; held 0 0 = 15000; held 1 0 = 5000");
    }

    private static void refundRefused() {
        Run.of("no quick refund if the holder had no shares on the pay day", PERSON,
            "addHolder PERSON 1; pay 10; giveForm 1; refund 0 1 throws State; setShares 1 5; refund 0 1 throws State",
            "pass 1; refund 0 1 throws State; addHolder PERSON 1; setShares 2 5; giveForm 2; refund 0 2 throws State",
            "refunded = 0");
        Run.of("no quick refund if the shares were sold ahead of the pay day", PERSON,
            "addHolder PERSON 1; setShares 1 9; giveForm 1; pass 1; setShares 1 0; pay 10; refund 0 1 throws State");
        Run.of("no such holder is named ahead of too late", PERSON,
            "pay 10; giveForm 0; pass 61; refund 0 1 throws Index; refund 1 0 throws Index; refund 0 0 throws State");
        Run.of("a refused quick refund refunds nothing", PERSON,
            "pay 10; giveForm 0; pass 61; 3x refund 0 0 throws State; held 0 0 = 303; heldInAll = 303; refunded = 0",
            "claim 0 0 = 152");
    }

    private static void claimInTime() {
        Run.of("a claim on the pay day", PERSON, "pay 10; giveForm 0; claim 0 0 = 152; held 0 0 = 151");
        Run.of("a claim 1080 days behind the pay day", PERSON,
            "pay 10; pass 1080; giveForm 0; claim 0 0 = 152; held 0 0 = 151");
        Run.of("no claim 1081 days behind the pay day", PERSON,
            "pay 10; pass 1081; giveForm 0; claim 0 0 throws State; held 0 0 = 303; refunded = 0");
        Run.of("a claim 61 days behind the pay day, when a quick refund is too late", PERSON,
            "pay 10; pass 61; giveForm 0; refund 0 0 throws State; claim 0 0 = 152");
        Run.of("a claim on the day 20000", PERSON,
            "9x pass 2000; pass 919 = 18919; pay 10; pass 1 = 18920; pay 10; pass 1080 = 20000; giveForm 0",
            "claim 0 0 throws State; claim 1 0 = 152");
        Run.of("0 is claimed up to 1080 days behind the pay day, too", PERSON,
            "pass 1; giveForm 0; pay 10; claim 0 0 = 0; pass 1080; claim 0 0 = 0; pass 1; giveForm 0",
            "claim 0 0 throws State");
    }

    private static void claimByForms() {
        Run.of("a form of the holder is valid today: on its last day", PERSON,
            "pay 10; giveForm 0; pass 1080; isValid 0 = true; claim 0 0 = 152");
        Run.of("no form is valid today: the day behind its last day", PERSON,
            "giveForm 0; pass 1; pay 10; pass 1080; isValid 0 = false; claim 0 0 throws State; giveForm 0",
            "claim 0 0 = 0; held 0 0 = 151");
        Run.of("no form is valid today: none was given", PERSON,
            "pay 10; claim 0 0 throws State; pass 1; claim 0 0 throws State; held 0 0 = 303; giveForm 0",
            "claim 0 0 = 152");
        Run.of("a form of another holder does not count for a claim", PERSON,
            "addHolder PERSON 1; pay 10; giveForm 1; claim 0 0 throws State; held 0 0 = 303");
        Run.of("by a treaty of 30 nothing is claimed",
            "addHolder PERSON 1; setShares 0 101; pay 10; giveForm 0; claim 0 0 = 0; held 0 0 = 303");
        Run.of("by a treaty of 0 all is claimed, at its greatest",
            "addHolder PERSON 1; setTreaty 1 0 0; setShares 0 1000000; pay 1000; pass 1080; giveForm 0",
            "claim 0 0 = 300000000; held 0 0 = 0; claim 0 0 = 0; refunded = 300000000; heldInAll = 0");
        Run.of("a claim by the terms of the pay day",
            "setTreaty 1 15 5; addHolder COMPANY 1; setShares 0 100000; pass 364; pay 1; pass 1; pay 1; setShares 0 0",
            "setTreaty 1 0 0; pass 1000; giveForm 0; claim 0 0 = 15000; claim 1 0 = 25000; held 1 0 = 5000");
    }

    private static void claimOfPartnerships() {
        Run.of("what was held above the due tax, without members' forms", PARTNERS,
            "pay 100; pass 1080; giveForm 0; claim 0 0 = 140; held 0 0 = 70; claim 0 0 = 0");
        Run.of("members' forms alone are not enough for a claim", PARTNERS,
            "pay 100; giveForm 1; giveForm 2; giveForm 3; claim 0 0 throws State; held 0 0 = 210");
        Run.of("members' forms alone were not enough: the partnership's has lapsed", PARTNERS,
            "giveForm 0; pass 1; pay 100; pass 1080; giveForm 1; claim 0 0 throws State; giveForm 0; claim 0 0 = 140");
        Run.of("a claim with the members and parts of the pay day", PARTNERS,
            "pay 100; setParts 0 1 0; setParts 0 2 0; setParts 0 3 0; giveForm 0; claim 0 0 = 140; held 0 0 = 70");
        Run.of("a quick refund, then a claim of the rest", PARTNERS,
            "pay 100; giveForm 0; giveForm 1; refund 0 0 = 60; claim 0 0 = 80; refund 0 0 = 0; claim 0 0 = 0",
            "held 0 0 = 70; refunded = 140; heldInAll = 70");
        Run.of("a claim leaves nothing for a quick refund with fewer forms", PARTNERS,
            "pay 100; giveForm 0; claim 0 0 = 140; refund 0 0 = 0; held 0 0 = 70; giveForm 1; refund 0 0 = 0");
    }

    private static void claimRefused() {
        Run.of("no claim if the holder had no shares on the pay day", PERSON,
            "addHolder PERSON 1; pay 10; giveForm 1; claim 0 1 throws State; setShares 1 5; claim 0 1 throws State",
            "pass 1; claim 0 1 throws State; addHolder PERSON 1; setShares 2 5; giveForm 2; claim 0 2 throws State",
            "refunded = 0");
        Run.of("no such holder is named ahead of no form and too late", PERSON,
            "pay 10; claim 0 1 throws Index; claim 1 0 throws Index; pass 1081; claim 0 1 throws Index",
            "claim 1 0 throws Index; claim 0 0 throws State");
        Run.of("a refused claim refunds nothing", PERSON,
            "pay 10; 2x claim 0 0 throws State; pass 1081; giveForm 0; 2x claim 0 0 throws State; held 0 0 = 303",
            "heldInAll = 303; refunded = 0");
    }

    private static void noSuchDividendOrHolder() {
        for (String call : new String[] {"refund", "claim"}) {
            String c = call + " ";
            Run.of(call + ": no such dividend", PERSON, "giveForm 0; pay 10; pay 20",
                c + "-1 0 throws Index;" + c + "2 0 throws Index;" + c + "MIN 0 throws Index;" + c + "MAX 0 throws Index",
                c + "0 0 = 0;" + c + "1 0 = 0");
            Run.of(call + ": no such holder", PERSON, "giveForm 0; pay 10; pay 20",
                c + "0 -1 throws Index;" + c + "0 1 throws Index;" + c + "1 MIN throws Index;" + c + "1 MAX throws Index",
                c + "-1 1 throws Index;" + c + "0 0 = 0;" + c + "1 0 = 0");
            Run.of(call + ": the last holder of 20 for the last dividend of 40",
                "20x addHolder PERSON 0; setTreaty 0 10 10; setShares 19 100; 39x pay 1; pay 10; giveForm 19",
                c + "39 19 = 200;" + c + "38 19 = 20;" + c + "40 19 throws Index;" + c + "39 20 throws Index",
                c + "39 0 throws State;" + c + "0 19 = 20; refunded = 240");
        }
    }

    private static void noLongerHeld() {
        Run.of("what was refunded is no longer held: by this holder alone", PERSON,
            "addHolder PERSON 1; setShares 1 101; pay 10; giveForm 0; giveForm 1; refund 0 0 = 152; held 0 0 = 151",
            "held 0 1 = 303; heldInAll = 454; refunded = 152; claim 0 1 = 152; heldInAll = 302; refunded = 304");
        Run.of("what was refunded is no longer held: for this dividend alone", PERSON,
            "pay 10; pay 10; giveForm 0; claim 0 0 = 152; held 0 0 = 151; held 1 0 = 303; refund 1 0 = 152",
            "held 1 0 = 151; heldInAll = 302; refunded = 304");
        Run.of("what was refunded does not change gross and due", PERSON,
            "pay 10; giveForm 0; refund 0 0; gross 0 0 = 1010; due 0 0 = 151; held 0 0 = 151");
        Run.of("what was refunded once is not refunded again", PERSON,
            "pay 10; giveForm 0; refund 0 0 = 152; refund 0 0 = 0; claim 0 0 = 0; refunded = 152; heldInAll = 151");
    }

    private static void runsOf512Calls() {
        Run.of("an object is used for 512 calls: refunds", PERSON,
            "pay 10; 507x refund 0 0 = 0; heldInAll = 303");
        Run.of("an object is used for 512 calls: claims", PERSON,
            "pay 10; giveForm 0; claim 0 0 = 152; 505x claim 0 0 = 0; refunded = 152");
    }
}
