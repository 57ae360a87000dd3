/** Promises 12 to 20 with ordinary calls; DutyEdges has the edges of each sentence. */
public final class DutyTest {
    private static final Checks CHECKS = new Checks("DutyTest");

    public static void main(String[] args) {
        promise12PassBreaches();
        promise12PassPutsOff();
        promise12PassOnTheSameDay();
        promise12PassWithinOneCall();
        promise12PassReleases();
        promise13Duties();
        promise14State();
        promise15Day();
        promise16IsSuspended();
        promise16AcrossContracts();
        promise17Perform();
        promise17PerformWhenSuspended();
        promise18Notice();
        promise19Settle();
        promise20Owes();
        CHECKS.finish();
    }

    /** Lets the duty of a shop of two come to its breach, with no cure. */
    private static void breach(ClauseShop shop, int duty) {
        shop.notice(duty);
        shop.pass(1);
    }

    private static void promise12PassBreaches() {
        ClauseShop shop = Shops.twoDuties(0, 3, 1);
        shop.pass(1);
        shop.notice(0);
        CHECKS.equal("till the end of the cure", shop.pass(3), 0);
        CHECKS.equal("it is noticed", shop.state(0), ClauseShop.NOTICED);
        CHECKS.equal("a day later", shop.pass(1), 1);
        CHECKS.equal("it is breached", shop.state(0), ClauseShop.BREACHED);
        CHECKS.equal("on that day", shop.day(0), 5);
        CHECKS.equal("once", shop.pass(10), 0);
        CHECKS.equal("an open duty is not breached without notice", shop.state(1), ClauseShop.OPEN);

        ClauseShop cured = Shops.twoDuties(0, 3, 1);
        cured.pass(1);
        cured.notice(0);
        cured.perform(0);
        CHECKS.equal("a duty that was done is not breached", cured.pass(100), 0);

        ClauseShop within = Shops.twoDuties(0, 3, 1);
        within.pass(1);
        within.notice(0);
        CHECKS.equal("in the middle of many days", within.pass(50), 1);
        CHECKS.equal("on its own day", within.day(0), 5);
    }

    private static void promise12PassPutsOff() {
        ClauseShop shop = Shops.twoDuties(0, 0, 1);
        shop.issue(0, 0, 90, 7, 1);
        shop.issue(2, 0, 1, 7, 1);
        shop.issue(3, 1, 80, 7, 1);
        Shops.signed(shop, 0, 1, 2, 3);
        shop.pass(2);
        CHECKS.equal("notice of duty 4", shop.notice(4), 9);
        breach(shop, 3);
        CHECKS.equal("the day of the breach moves no term", shop.day(2), 90);
        CHECKS.equal("nor the end of a cure", shop.day(4), 9);
        shop.pass(1);
        CHECKS.equal("the next day moves the term", shop.day(2), 91);
        CHECKS.equal("and the end of the cure", shop.day(4), 10);
        CHECKS.equal("many days", shop.pass(50), 0);
        CHECKS.equal("each move the term", shop.day(2), 141);
        CHECKS.equal("and the end of the cure, that is not breached so", shop.day(4), 60);
        CHECKS.equal("not for the side that is in breach", shop.day(5), 80);
        CHECKS.equal("the breached duty keeps its day", shop.day(3), 3);
        CHECKS.equal("not in another contract", shop.day(0), 0);
        shop.settle(3);
        CHECKS.equal("no longer once settled", shop.pass(6), 0);
        CHECKS.equal("so the term stands", shop.day(2), 141);
        CHECKS.equal("till the end of the cure", shop.pass(1), 1);
        CHECKS.equal("the cure went on", shop.day(4), 61);
    }

    private static void promise12PassOnTheSameDay() {
        ClauseShop shop = Shops.twoDuties(0, 2, 1);
        shop.pass(1);
        shop.notice(0);
        shop.notice(1);
        CHECKS.equal("the end of both cures", shop.pass(2), 0);
        CHECKS.equal("both are breached on one day", shop.pass(1), 2);
        CHECKS.equal("the first", shop.day(0), 4);
        CHECKS.equal("the second", shop.day(1), 4);

        ClauseShop uneven = Shops.twoDuties(0, 2, 1);
        uneven.pass(1);
        uneven.notice(1);
        uneven.pass(1);
        uneven.notice(0);
        uneven.pass(2);
        CHECKS.equal("the higher number is breached first", uneven.state(1), ClauseShop.BREACHED);
        CHECKS.equal("and holds up the lower one, at the end of its cure", uneven.pass(20), 0);
        CHECKS.equal("which moves", uneven.day(0), 24);
    }

    private static void promise12PassWithinOneCall() {
        ClauseShop shop = Shops.twoDuties(0, 2, 1);
        shop.issue(2, 0, 30, 1, 1);
        Shops.signed(shop, 1, 2);
        shop.pass(1);
        shop.notice(2);
        shop.pass(2);
        CHECKS.equal("a breach in the first of ten days", shop.pass(10), 1);
        CHECKS.equal("on its day", shop.day(2), 4);
        CHECKS.equal("moves the term by the other nine", shop.day(3), 39);

        ClauseShop more = Shops.stocked(0, 1, 1);
        Shops.signed(more, 0, 2, 4, 6, 8);
        more.pass(1);
        for (int duty = 0; duty < 5; duty++) {
            more.notice(duty);
            more.pass(1);
        }
        CHECKS.equal("all that are breached count", more.pass(1), 1);
        for (int duty = 0; duty < 5; duty++) {
            CHECKS.equal("each on its day", more.day(duty), duty + 3);
        }
    }

    private static void promise12PassReleases() {
        ClauseShop shop = Shops.twoDuties(0, 0, 1);
        shop.issue(3, 1, 0, 0, 1);
        shop.issue(5, 1, 0, 0, 1);
        shop.issue(0, 0, 70, 0, 1);
        Shops.signed(shop, 0, 3, 5);
        shop.pass(1);
        shop.notice(3);
        shop.notice(4);
        CHECKS.equal("two breaches of one side", shop.pass(1), 2);
        shop.pass(1);
        CHECKS.equal("move the term by one day a day", shop.day(2), 71);
        shop.settle(3);
        shop.pass(1);
        CHECKS.equal("the second still holds it up", shop.day(2), 72);
        shop.settle(4);
        shop.pass(1);
        CHECKS.equal("nothing holds it up", shop.day(2), 72);
    }

    private static void promise13Duties() {
        ClauseShop shop = Shops.stocked(1, 1, 1);
        int expected = 0;
        CHECKS.equal("none", shop.duties(), 0);
        for (int clause = 0; clause < 10; clause++) {
            int draft = shop.begin();
            for (int i = 0; i <= clause; i++) {
                Shops.agree(shop, draft, i);
            }
            shop.sign(draft, 0);
            CHECKS.equal("one signature", shop.duties(), expected);
            shop.sign(draft, 1);
            expected += clause + 1;
            CHECKS.equal("both signatures", shop.duties(), expected);
        }
        shop.perform(0);
        CHECKS.equal("a duty that is done is still one", shop.duties(), 55);

        ClauseShop full = Shops.stocked(1, 1, 1);
        for (int contract = 0; contract < 10; contract++) {
            Shops.signed(full, 0, 1, 2, 3, 4, 5, 6, 7, 8, 9);
        }
        CHECKS.equal("as many as there can be", full.duties(), 100);
        CHECKS.equal("the last one", full.state(99), ClauseShop.OPEN);
        CHECKS.index("one more", () -> full.state(100));
        full.pass(100);
        CHECKS.equal("they count on", full.duties(), 100);
    }

    private static void promise14State() {
        CHECKS.equal("OPEN", ClauseShop.OPEN, 0);
        CHECKS.equal("DONE", ClauseShop.DONE, 1);
        CHECKS.equal("NOTICED", ClauseShop.NOTICED, 2);
        CHECKS.equal("BREACHED", ClauseShop.BREACHED, 3);
        CHECKS.equal("SETTLED", ClauseShop.SETTLED, 4);
        ClauseShop shop = Shops.twoDuties(0, 0, 1);
        CHECKS.equal("at first", shop.state(0), 0);
        shop.pass(1);
        CHECKS.equal("a late one is open", shop.state(0), 0);
        shop.notice(0);
        CHECKS.equal("noticed", shop.state(0), 2);
        CHECKS.equal("the other one is open", shop.state(1), 0);
        shop.pass(1);
        CHECKS.equal("breached", shop.state(0), 3);
        CHECKS.equal("the other one is open though suspended", shop.state(1), 0);
        shop.settle(0);
        CHECKS.equal("settled", shop.state(0), 4);
        shop.perform(1);
        CHECKS.equal("done", shop.state(1), 1);
        shop.pass(100);
        CHECKS.equal("settled for good", shop.state(0), 4);
        CHECKS.equal("done for good", shop.state(1), 1);
    }

    private static void promise15Day() {
        ClauseShop shop = Shops.twoDuties(5, 2, 1);
        CHECKS.equal("the term", shop.day(0), 5);
        shop.pass(6);
        CHECKS.equal("the term that has gone by", shop.day(0), 5);
        shop.notice(0);
        CHECKS.equal("the end of the cure", shop.day(0), 8);
        shop.pass(5);
        CHECKS.equal("the day of the breach", shop.day(0), 9);
        CHECKS.equal("a term that was put off", shop.day(1), 7);
        shop.settle(0);
        CHECKS.equal("the day of settling", shop.day(0), 11);
        shop.perform(1);
        CHECKS.equal("the day it was done", shop.day(1), 11);
        shop.issue(0, 1, 99, 49, 999);
        shop.pass(100);
        CHECKS.equal("for good", shop.day(0), 11);
        CHECKS.equal("both", shop.day(1), 11);
        Shops.signed(shop, 1);
        CHECKS.equal("from a later day", shop.day(2), 116);
    }

    private static void promise16IsSuspended() {
        ClauseShop shop = Shops.stocked(0, 0, 1);
        Shops.signed(shop, 0, 1, 2, 3, 4);
        shop.pass(1);
        CHECKS.equal("nothing is breached", shop.isSuspended(1), false);
        shop.notice(3);
        shop.notice(0);
        CHECKS.equal("nor by a notice", shop.isSuspended(1), false);
        shop.perform(3);
        shop.pass(1);
        CHECKS.equal("an open duty of the other side", shop.isSuspended(1), true);
        CHECKS.equal("a done one", shop.isSuspended(3), false);
        CHECKS.equal("an open duty of the same side", shop.isSuspended(2), false);
        CHECKS.equal("the breached one", shop.isSuspended(0), false);
        shop.notice(1);
        CHECKS.equal("a noticed duty of the other side", shop.isSuspended(1), true);
        shop.settle(0);
        CHECKS.equal("no longer once settled", shop.isSuspended(1), false);
        CHECKS.equal("the settled one", shop.isSuspended(0), false);
        shop.pass(1);
        CHECKS.equal("the breach of side 1 suspends side 0", shop.isSuspended(2), true);
        shop.notice(4);
        CHECKS.equal("noticed ones of side 0 too", shop.isSuspended(4), true);
        CHECKS.equal("a done duty is not suspended", shop.isSuspended(3), false);
        shop.settle(1);
        CHECKS.equal("settled again", shop.isSuspended(2), false);

        ClauseShop both = Shops.twoDuties(0, 0, 1);
        both.pass(1);
        both.notice(0);
        both.notice(1);
        both.pass(1);
        CHECKS.equal("breached ones are not suspended", both.isSuspended(0), false);
        CHECKS.equal("either way", both.isSuspended(1), false);
        both.settle(0);
        CHECKS.equal("nor settled ones", both.isSuspended(0), false);
    }

    private static void promise16AcrossContracts() {
        ClauseShop shop = Shops.twoDuties(0, 0, 1);
        Shops.signed(shop, 0, 1);
        shop.pass(1);
        breach(shop, 0);
        CHECKS.equal("in its contract", shop.isSuspended(1), true);
        CHECKS.equal("not in another one", shop.isSuspended(3), false);
        CHECKS.equal("of either side", shop.isSuspended(2), false);
    }

    private static void promise17Perform() {
        ClauseShop shop = Shops.stocked(5, 3, 1);
        Shops.signed(shop, 0, 1, 2, 3, 4);
        CHECKS.equal("ahead of its term", shop.perform(0), false);
        CHECKS.state("twice", () -> shop.perform(0));
        shop.pass(5);
        CHECKS.equal("on its term", shop.perform(1), false);
        shop.pass(1);
        CHECKS.equal("later than its term", shop.perform(2), true);
        CHECKS.equal("done", shop.state(2), ClauseShop.DONE);
        CHECKS.equal("on that day", shop.day(2), 6);
        shop.notice(3);
        CHECKS.equal("when noticed", shop.perform(3), true);
        shop.notice(4);
        shop.pass(3);
        CHECKS.state("notice twice", () -> shop.notice(4));
        shop.pass(1);
        CHECKS.state("when breached", () -> shop.perform(4));
        CHECKS.equal("which stays so", shop.day(4), 10);
        shop.settle(4);
        CHECKS.state("when settled", () -> shop.perform(4));
    }

    private static void promise17PerformWhenSuspended() {
        ClauseShop shop = Shops.twoDuties(0, 0, 1);
        shop.issue(2, 0, 2, 30, 1);
        Shops.signed(shop, 1, 2);
        shop.pass(1);
        breach(shop, 2);
        CHECKS.equal("suspended", shop.isSuspended(3), true);
        shop.pass(20);
        CHECKS.equal("its term was put off", shop.perform(3), false);
        CHECKS.equal("done all the same", shop.state(3), ClauseShop.DONE);

        ClauseShop last = Shops.twoDuties(0, 9, 1);
        last.pass(1);
        last.notice(0);
        last.pass(9);
        CHECKS.equal("on the last day of the cure", last.perform(0), true);
        CHECKS.equal("and no penalty", last.owes(0, 0), 0);
    }

    private static void promise18Notice() {
        ClauseShop shop = Shops.twoDuties(4, 6, 1);
        CHECKS.state("ahead of the term", () -> shop.notice(0));
        shop.pass(4);
        CHECKS.state("on the term", () -> shop.notice(0));
        CHECKS.equal("it is still open", shop.state(0), ClauseShop.OPEN);
        shop.pass(1);
        CHECKS.equal("later than the term", shop.notice(0), 11);
        CHECKS.equal("noticed", shop.state(0), ClauseShop.NOTICED);
        CHECKS.state("twice", () -> shop.notice(0));
        CHECKS.equal("the end of the cure stands", shop.day(0), 11);
        shop.perform(0);
        CHECKS.state("of what is done", () -> shop.notice(0));
        shop.pass(30);
        CHECKS.equal("counted from the day of the notice", shop.notice(1), 41);
        shop.pass(7);
        CHECKS.state("of what is breached", () -> shop.notice(1));
        shop.settle(1);
        CHECKS.state("of what is settled", () -> shop.notice(1));

        ClauseShop held = Shops.twoDuties(0, 8, 1);
        held.issue(0, 0, 3, 8, 1);
        held.issue(1, 1, 0, 0, 1);
        Shops.signed(held, 0, 1);
        held.pass(1);
        breach(held, 3);
        held.pass(20);
        CHECKS.state("a term that is put off can't be gone by", () -> held.notice(2));
        CHECKS.equal("its term", held.day(2), 23);

        ClauseShop late = Shops.twoDuties(0, 8, 1);
        late.issue(1, 1, 0, 0, 1);
        Shops.signed(late, 0, 1);
        late.pass(1);
        breach(late, 3);
        late.pass(20);
        CHECKS.equal("a suspended duty that was late before", late.notice(2), 30);
    }

    private static void promise19Settle() {
        ClauseShop shop = new ClauseShop();
        shop.issue(0, 0, 0, 0, 1000);
        shop.issue(1, 0, 0, 0, 0);
        shop.issue(2, 1, 0, 0, 37);
        Shops.signed(shop, 0, 1, 2);
        CHECKS.state("of an open duty", () -> shop.settle(0));
        shop.pass(1);
        CHECKS.state("of a late duty", () -> shop.settle(0));
        shop.notice(0);
        CHECKS.state("of a noticed duty", () -> shop.settle(0));
        shop.notice(1);
        shop.notice(2);
        shop.issue(0, 0, 0, 0, 5);
        shop.pass(1);
        shop.pass(3);
        CHECKS.equal("the penalty of its own version", shop.settle(0), 1000);
        CHECKS.equal("settled", shop.state(0), ClauseShop.SETTLED);
        CHECKS.equal("on that day", shop.day(0), 5);
        CHECKS.state("twice", () -> shop.settle(0));
        CHECKS.equal("of no penalty", shop.settle(1), 0);
        CHECKS.equal("settled as well", shop.state(1), ClauseShop.SETTLED);
        CHECKS.equal("nothing is set off in it", shop.settle(2), 37);
        shop.issue(3, 0, 0, 0, 1);
        Shops.signed(shop, 3);
        shop.perform(3);
        CHECKS.state("of a done duty", () -> shop.settle(3));
    }

    private static void promise20Owes() {
        ClauseShop shop = new ClauseShop();
        int[] penalties = {500, 200, 30, 400};
        for (int clause = 0; clause < 4; clause++) {
            shop.issue(clause, clause % 2, 0, 0, penalties[clause]);
        }
        int contract = Shops.signed(shop, 0, 1, 2, 3);
        int other = shop.begin();
        shop.pass(1);
        owing(shop, contract, 0, 0);
        shop.notice(0);
        owing(shop, contract, 0, 0);
        shop.pass(1);
        owing(shop, contract, 500, 0);
        CHECKS.equal("a draft owes nothing", shop.owes(other, 0), 0);
        shop.notice(2);
        shop.pass(1);
        owing(shop, contract, 530, 0);
        shop.pass(100);
        owing(shop, contract, 530, 0);
        shop.settle(0);
        owing(shop, contract, 30, 0);
        shop.settle(2);
        owing(shop, contract, 0, 0);
        shop.notice(1);
        shop.notice(3);
        shop.pass(1);
        owing(shop, contract, 0, 600);

        int even = evenContract();
        CHECKS.equal("equal penalties leave nothing", even, 0);
    }

    private static void owing(ClauseShop shop, int contract, int first, int second) {
        CHECKS.equal("side 0 owes", shop.owes(contract, 0), first);
        CHECKS.equal("side 1 owes", shop.owes(contract, 1), second);
    }

    private static int evenContract() {
        ClauseShop shop = Shops.twoDuties(0, 0, 250);
        shop.pass(1);
        shop.notice(0);
        shop.notice(1);
        shop.pass(1);
        int owed = shop.owes(0, 0) + shop.owes(0, 1);
        shop.settle(1);
        CHECKS.equal("what was set off comes back", shop.owes(0, 0), 250);
        CHECKS.equal("for one side", shop.owes(0, 1), 0);
        return owed;
    }

}
