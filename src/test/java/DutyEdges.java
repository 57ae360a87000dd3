import java.util.function.Consumer;
import java.util.function.ObjIntConsumer;
import java.util.function.Supplier;

/** Promises 12 to 20, sentence by sentence. */
final class DutyEdges {
    private static final String ITS_NUMBER = "`duty`: its number";
    private static final String NO_DUTY = "Throws `IndexOutOfBoundsException` if there is no such duty";
    private static final String A_DAY_PASSES = "When a day passes, ahead of all else, the term of each open duty and "
            + "the end of the cure of each noticed duty that is suspended, by what was breached on earlier days, "
            + "become one day later; then duties are breached, by rising numbers.";
    private static final String SUSPENDED_AS_LONG = "A duty is suspended as long as the other side of its contract has "
            + "a breached duty in it that is not settled.";
    private static final String SUM_LESS_THE_OTHERS = "What a side owes in a contract is the sum of the penalties of "
            + "its own breached duties that are not settled, less that of the other side's, but at least 0.";
    private static final int[] NO_DUTIES = {-1, Shops.BUSY_DUTIES, 100, 256, 65536, Integer.MIN_VALUE,
        Integer.MAX_VALUE};

    private final Edges edges;

    DutyEdges(Edges edges) {
        this.edges = edges;
    }

    void run() {
        promise12();
        promise13();
        promise14();
        promise15();
        promise16();
        promise17();
        promise18();
        promise19();
        promise20();
    }

    /** The call refuses numbers that no duty has, in a shop with some, with none and with a hundred of them. */
    private void refusesOtherNumbers(int promise, String call, ObjIntConsumer<ClauseShop> refused) {
        edges.sentence(promise, NO_DUTY);
        edges.indices(call, NO_DUTIES, Shops::busy, refused);
        edges.indices(call, new int[] {0, -1, 1}, ClauseShop::new, refused);
        edges.indices(call, new int[] {0, -1, 1}, Shops::tenDrafts, refused);
        edges.indices(call, new int[] {100, -1, 101}, Shops::full, refused);
    }

    private void refuses(String call, Consumer<ClauseShop> refused) {
        edges.state(call, Shops::busy, refused);
    }

    /** Gives notice of a duty that is late and has no cure, and lets a day pass. */
    private static void breach(ClauseShop shop, int duty) {
        shop.notice(duty);
        shop.pass(1);
    }

    // ---- promise 12: pass

    private void promise12() {
        promise12Days();
        promise12DaysPass();
        promise12HowManyAreBreached();
        promise12OutOfRange();
        promise12LaterThanTheLastDay();
        promise12LastDay();
        promise12LaterThanTheEndOfTheCure();
        promise12PutsOffFromTheNextDayOn();
        promise12PutsOffAheadOfBreaches();
        promise12BreachesOfOneDay();
        promise12PutsOffWithinOneCall();
        promise12PutsOffOneDayADay();
        promise12PutsOffPastTerms();
        promise12PutsOffTheOtherSideAlone();
    }

    private void promise12Days() {
        edges.sentence(12, "`days`: 1 to 100");
        for (int days : new int[] {1, 2, 99, 100}) {
            ClauseShop shop = Shops.busy();
            shop.pass(days);
            shop.perform(Shops.LATE_DUTY);
            edges.equal("pass(" + days + ")", shop.day(Shops.LATE_DUTY), Shops.BUSY_DAY + days);
        }
        int[] wrong = {0, -1, 101, -100, 257, 65537, Integer.MIN_VALUE, Integer.MAX_VALUE};
        edges.arguments("pass", wrong, Shops::busy, ClauseShop::pass);
    }

    private void promise12DaysPass() {
        edges.sentence(12, "Lets days pass.");
        ClauseShop shop = Shops.full();
        int today = 0;
        for (int days = 1; days <= 100; days++) {
            shop.pass(days);
            today += days;
            shop.perform(days - 1);
            edges.equal("after " + days + " days more", shop.day(days - 1), today);
        }
    }

    private void promise12HowManyAreBreached() {
        edges.sentence(12, "Returns how many duties are breached in them.");
        ClauseShop shop = Shops.full();
        edges.equal("none, as none is noticed", shop.pass(1), 0);
        for (int duty = 0; duty < 100; duty++) {
            shop.notice(duty);
        }
        edges.equal("a hundred, of both sides, on one day", shop.pass(1), 100);
        edges.equal("they are not counted again", shop.pass(100), 0);
        ClauseShop apart = Shops.stocked(0, 0, 1);
        for (int cure : new int[] {0, 49, 50}) {
            apart.issue(0, 0, 0, cure, 1);
            Shops.signed(apart, 0);
        }
        apart.pass(1);
        apart.notice(0);
        apart.notice(1);
        apart.notice(2);
        edges.equal("on the first day and on the last but one", apart.pass(50), 2);
        edges.equal("on the last one", apart.pass(1), 1);
        edges.equal("of one that was done", Shops.after(() -> withOneNoticed(0), s -> s.perform(0)).get().pass(100), 0);
    }

    /** On day 1; duty 0 is noticed. */
    private static ClauseShop withOneNoticed(int cure) {
        ClauseShop shop = Shops.twoDuties(0, cure, 1);
        shop.pass(1);
        shop.notice(0);
        return shop;
    }

    private void promise12OutOfRange() {
        edges.sentence(12, "Throws `IllegalArgumentException` if days is out of range");
        for (int day : new int[] {0, 9899, 9998, 9999}) {
            edges.arguments("pass on day " + day, new int[] {0, -1, 101, Integer.MIN_VALUE, Integer.MAX_VALUE},
                    () -> Shops.onDay(day), ClauseShop::pass);
        }
    }

    private void promise12LaterThanTheLastDay() {
        edges.sentence(12, "Throws `IllegalStateException` if it would be later than the day 9999");
        edges.state("pass(1) on day 9999", () -> Shops.onDay(9999), s -> s.pass(1));
        edges.state("pass(100) on day 9999", () -> Shops.onDay(9999), s -> s.pass(100));
        edges.state("pass(2) on day 9998", () -> Shops.onDay(9998), s -> s.pass(2));
        edges.state("pass(100) on day 9900", () -> Shops.onDay(9900), s -> s.pass(100));
        edges.equal("pass(1) on day 9998", Shops.onDay(9998).pass(1), 0);
        edges.equal("pass(99) on day 9900", Shops.onDay(9900).pass(99), 0);
        edges.equal("pass(100) on day 9899", Shops.onDay(9899).pass(100), 0);
        Supplier<ClauseShop> due = () -> {
            ClauseShop shop = Shops.onDay(9990);
            Shops.signed(shop, 0, 1);
            shop.pass(5);
            shop.notice(0);
            return shop;
        };
        edges.state("with a breach ahead of the last day", due, s -> s.pass(5));
        ClauseShop shop = due.get();
        edges.equal("a breach up to the last day", shop.pass(4), 1);
        edges.equal("it was on the next day", shop.day(0), 9996);
        edges.equal("the other one is put off by the other three", shop.day(1), 9993);
    }

    private void promise12LastDay() {
        edges.sentence(12, "Days are 0 to 9999; the present day is 0 at first and goes on by calls.");
        ClauseShop shop = Shops.twoDuties(0, 0, 1);
        shop.perform(0);
        edges.equal("the first day", shop.day(0), 0);
        Shops.passTo(shop, 0, 9999);
        shop.perform(1);
        edges.equal("the last day", shop.day(1), 9999);
        edges.state("a duty of the last day is not late",
                Shops.after(() -> Shops.onDay(9999), s -> Shops.signed(s, 2)), s -> s.notice(0));
    }

    private void promise12LaterThanTheEndOfTheCure() {
        edges.sentence(12, "A noticed duty is breached when a day comes that is later than the end of its cure.");
        for (int cure : new int[] {0, 1, 2, 49, 50}) {
            ClauseShop shop = withOneNoticed(cure);
            for (int i = 0; i < cure; i++) {
                edges.equal("up to the end of a cure of " + cure, shop.pass(1), 0);
            }
            edges.equal("still noticed", shop.state(0), ClauseShop.NOTICED);
            edges.equal("on the day after it", shop.pass(1), 1);
            edges.equal("breached", shop.state(0), ClauseShop.BREACHED);
            edges.equal("on that day", shop.day(0), 2 + cure);
            edges.equal("in one call", withOneNoticed(cure).pass(cure + 1), 1);
        }
        edges.equal("an open one never is", Shops.twoDuties(0, 0, 1).pass(100), 0);
    }

    private void promise12PutsOffFromTheNextDayOn() {
        edges.sentence(12, A_DAY_PASSES);
        ClauseShop shop = withOneNoticed(0);
        shop.issue(2, 0, 7, 0, 1);
        Shops.signed(shop, 2);
        shop.pass(1);
        edges.equal("the day of the breach puts off nothing", shop.day(1), 0);
        shop.pass(1);
        edges.equal("the next day does", shop.day(1), 1);
        edges.equal("not in another contract", shop.day(2), 8);
        shop.settle(0);
        shop.pass(1);
        edges.equal("once it is settled no more", shop.day(1), 1);
    }

    private void promise12PutsOffAheadOfBreaches() {
        edges.sentence(12, A_DAY_PASSES);
        for (int first = 0; first < 2; first++) {
            int second = 1 - first;
            ClauseShop shop = Shops.twoDuties(0, 2, 1);
            shop.pass(1);
            shop.notice(first);
            shop.pass(1);
            shop.notice(second);
            edges.equal("a breach on the last day of the other one's cure", shop.pass(2), 1);
            edges.equal("which is put off ahead of its breach", shop.pass(1), 0);
            edges.equal("to the present day", shop.day(second), 5);
            edges.equal("day by day", shop.pass(100), 0);
            edges.equal("to the present day again", shop.day(second), 105);
            shop.settle(first);
            edges.equal("till the breach is settled", shop.pass(1), 1);
            edges.equal("it is breached on the next day", shop.day(second), 106);
        }
    }

    private void promise12BreachesOfOneDay() {
        edges.sentence(12, A_DAY_PASSES);
        ClauseShop shop = withOneNoticed(3);
        shop.notice(1);
        edges.equal("neither holds up the other one on that day", shop.pass(4), 2);
        edges.equal("the lower number", shop.day(0), 5);
        edges.equal("the higher number", shop.day(1), 5);
        shop.pass(3);
        edges.equal("what is breached stays where it is", shop.day(1), 5);
    }

    private void promise12PutsOffWithinOneCall() {
        edges.sentence(12, A_DAY_PASSES);
        ClauseShop shop = Shops.stocked(0, 0, 1);
        shop.issue(1, 1, 40, 0, 1);
        shop.issue(3, 1, 0, 9, 1);
        Shops.signed(shop, 0, 1, 3);
        shop.pass(1);
        shop.notice(0);
        shop.notice(2);
        edges.equal("a breach on the first of a hundred days", shop.pass(100), 1);
        edges.equal("its day", shop.day(0), 2);
        edges.equal("a term, by the other ninety-nine", shop.day(1), 139);
        edges.equal("the end of a cure, too", shop.day(2), 109);
        edges.equal("which is no breach", shop.state(2), ClauseShop.NOTICED);
    }

    private void promise12PutsOffOneDayADay() {
        edges.sentence(12, A_DAY_PASSES);
        ClauseShop shop = Shops.stocked(0, 0, 1);
        Shops.signed(shop, 0, 2, 4, 5);
        shop.pass(1);
        shop.notice(0);
        shop.notice(1);
        shop.notice(2);
        edges.equal("three breaches of one side", shop.pass(1), 3);
        shop.pass(1);
        edges.equal("put off by one day", shop.day(3), 1);
        shop.settle(0);
        shop.settle(2);
        shop.pass(1);
        edges.equal("one is enough", shop.day(3), 2);
        shop.settle(1);
        shop.pass(1);
        edges.equal("none is left", shop.day(3), 2);
    }

    private void promise12PutsOffPastTerms() {
        edges.sentence(12, A_DAY_PASSES);
        ClauseShop shop = Shops.twoDuties(0, 0, 1);
        shop.pass(50);
        breach(shop, 0);
        shop.pass(20);
        edges.equal("a term that was past becomes later", shop.day(1), 20);
        edges.equal("and stays as late, so notice can be given", shop.notice(1), 71);
    }

    private void promise12PutsOffTheOtherSideAlone() {
        edges.sentence(12, A_DAY_PASSES);
        ClauseShop shop = Shops.stocked(0, 0, 1);
        shop.issue(2, 0, 30, 0, 1);
        shop.issue(3, 1, 30, 0, 1);
        Shops.signed(shop, 1, 2, 3);
        Shops.signed(shop, 2, 3);
        shop.pass(1);
        breach(shop, 0);
        shop.pass(10);
        edges.equal("the other side's", shop.day(1), 40);
        edges.equal("its own side's", shop.day(2), 30);
        edges.equal("the other side's in another contract", shop.day(3), 30);
        edges.equal("its own side's there", shop.day(4), 30);
        edges.equal("the breached one itself", shop.day(0), 2);
    }

    // ---- promise 13: duties

    private void promise13() {
        edges.sentence(13, "Returns the number of duties.");
        edges.equal("of a new shop", new ClauseShop().duties(), 0);
        edges.equal("beside ten drafts", Shops.tenDrafts().duties(), 0);
        edges.equal("in all states", Shops.busy().duties(), Shops.BUSY_DUTIES);
        ClauseShop shop = Shops.full();
        edges.equal("of ten contracts of ten items", shop.duties(), 100);
        shop.pass(1);
        shop.notice(0);
        shop.perform(99);
        shop.pass(1);
        shop.settle(0);
        edges.equal("ended ones count on", shop.duties(), 100);
        ClauseShop one = Shops.stocked(0, 0, 0);
        Shops.agree(one, one.begin(), 0);
        one.sign(0, 1);
        edges.equal("after one signature", one.duties(), 0);
        one.sign(0, 0);
        edges.equal("after both", one.duties(), 1);
    }

    // ---- promise 14: state

    private void promise14() {
        promise14State();
        promise14Numbers();
        promise14States();
        promise14OpenAtFirst();
        refusesOtherNumbers(14, "state", ClauseShop::state);
    }

    private void promise14State() {
        edges.sentence(14, "Returns the state of a duty.");
        ClauseShop shop = Shops.busy();
        shop.pass(5);
        edges.equal("past the end of its cure", shop.state(Shops.NOTICED_DUTY), ClauseShop.BREACHED);
        shop.pass(100);
        edges.equal("settled for good", shop.state(Shops.SETTLED_DUTY), ClauseShop.SETTLED);
        edges.equal("done for good", shop.state(Shops.DONE_DUTY), ClauseShop.DONE);
        edges.equal("breached till it is settled", shop.state(Shops.BREACHED_DUTY), ClauseShop.BREACHED);
        edges.equal("open, however late", shop.state(Shops.LATE_DUTY), ClauseShop.OPEN);
    }

    private void promise14Numbers() {
        edges.sentence(14, ITS_NUMBER);
        ClauseShop shop = Shops.full();
        shop.perform(99);
        edges.equal("the first duty", shop.state(0), ClauseShop.OPEN);
        edges.equal("the last duty", shop.state(99), ClauseShop.DONE);
    }

    private void promise14States() {
        edges.sentence(14, "Returns OPEN, DONE, NOTICED, BREACHED or SETTLED.");
        ClauseShop shop = Shops.busy();
        edges.equal("OPEN", shop.state(Shops.LATE_DUTY), 0);
        edges.equal("DONE", shop.state(Shops.DONE_DUTY), 1);
        edges.equal("NOTICED", shop.state(Shops.NOTICED_DUTY), 2);
        edges.equal("BREACHED", shop.state(Shops.BREACHED_DUTY), 3);
        edges.equal("SETTLED", shop.state(Shops.SETTLED_DUTY), 4);
        edges.equal("suspended ones are OPEN", shop.state(Shops.SUSPENDED_DUTY), 0);
    }

    private void promise14OpenAtFirst() {
        edges.sentence(14, "A duty is open at first; its term is that day plus the days of its version.");
        edges.equal("with no days", Shops.twoDuties(0, 0, 0).state(0), ClauseShop.OPEN);
        edges.equal("with a hundred days", Shops.twoDuties(100, 0, 0).state(1), ClauseShop.OPEN);
    }

    // ---- promise 15: day

    private void promise15() {
        promise15Day();
        promise15Numbers();
        promise15Term();
        promise15BeyondTheLastDay();
        promise15FirstAndLastTerm();
        refusesOtherNumbers(15, "day", ClauseShop::day);
    }

    private void promise15Day() {
        edges.sentence(15, "Returns its term if it is open, the end of its cure if it is noticed, otherwise the day on "
                + "which it was done, breached or settled.");
        ClauseShop shop = Shops.busy();
        edges.equal("the term", shop.day(Shops.LATE_DUTY), 7);
        edges.equal("the end of the cure", shop.day(Shops.NOTICED_DUTY), 12);
        edges.equal("the day on which it was done", shop.day(Shops.DONE_DUTY), 3);
        edges.equal("the day on which it was breached", shop.day(Shops.BREACHED_DUTY), 7);
        edges.equal("the day on which it was settled", shop.day(Shops.SETTLED_DUTY), 3);
        edges.equal("a term that was put off", shop.day(Shops.SUSPENDED_DUTY), 1);
        shop.pass(10);
        shop.settle(Shops.BREACHED_DUTY);
        edges.equal("settled later than breached", shop.day(Shops.BREACHED_DUTY), 18);
        shop.pass(10);
        edges.equal("settled for good", shop.day(Shops.BREACHED_DUTY), 18);
        edges.equal("done for good", shop.day(Shops.DONE_DUTY), 3);
        ClauseShop noticed = withOneNoticed(0);
        noticed.perform(0);
        edges.equal("done on the day of its notice", noticed.day(0), 1);
    }

    private void promise15Numbers() {
        edges.sentence(15, ITS_NUMBER);
        ClauseShop shop = Shops.full();
        shop.pass(3);
        shop.perform(99);
        edges.equal("the first duty", shop.day(0), 0);
        edges.equal("the last duty", shop.day(99), 3);
    }

    private void promise15Term() {
        edges.sentence(15, "Returns the day that counts for a duty.");
        ClauseShop shop = Shops.twoDuties(100, 50, 1);
        edges.equal("the longest term", shop.day(0), 100);
        Shops.passTo(shop, 0, 101);
        edges.equal("gone by", shop.day(0), 100);
        shop.notice(0);
        edges.equal("the longest cure", shop.day(0), 151);
        shop.pass(50);
        edges.equal("on its last day", shop.day(0), 151);
        shop.pass(1);
        edges.equal("breached", shop.day(0), 152);
        shop.pass(100);
        edges.equal("breached since then", shop.day(0), 152);
    }

    private void promise15BeyondTheLastDay() {
        edges.sentence(15, "Returns the day that counts for a duty.");
        ClauseShop shop = Shops.onDay(9997);
        shop.issue(2, 0, 0, 50, 1);
        shop.issue(4, 0, 100, 50, 1);
        Shops.signed(shop, 1, 2, 4);
        shop.pass(1);
        edges.equal("the end of a cure, beyond the last day", shop.notice(1), 10048);
        breach(shop, 0);
        edges.equal("it stays so on the last day", shop.day(1), 10048);
        edges.equal("a term beyond the last day", shop.day(2), 10097);
        shop.settle(0);
        edges.equal("settled on the last day", shop.day(0), 9999);
        shop.perform(1);
        edges.equal("done on the last day", shop.day(1), 9999);
    }

    private void promise15FirstAndLastTerm() {
        edges.sentence(15, "A duty is open at first; its term is that day plus the days of its version.");
        edges.equal("the first day", Shops.twoDuties(0, 0, 0).day(0), 0);
        ClauseShop shop = Shops.onDay(9999);
        shop.issue(0, 0, 100, 0, 0);
        Shops.signed(shop, 0);
        edges.equal("a hundred days from the last one on", shop.day(0), 10099);
    }

    // ---- promise 16: isSuspended

    private void promise16() {
        promise16Suspended();
        promise16Numbers();
        promise16NeitherOpenNorNoticed();
        promise16AsLongAsNotSettled();
        promise16FromTheBreachOn();
        refusesOtherNumbers(16, "isSuspended", ClauseShop::isSuspended);
    }

    private void promise16Suspended() {
        edges.sentence(16, "Returns whether a duty is suspended.");
        ClauseShop shop = Shops.busy();
        edges.equal("the other side's", shop.isSuspended(Shops.SUSPENDED_DUTY), true);
        edges.equal("its own side's", shop.isSuspended(Shops.NOTICED_DUTY), false);
        edges.equal("the other side's in another contract", shop.isSuspended(Shops.LATE_DUTY), false);
        edges.equal("its own side's there", shop.isSuspended(Shops.LATE_DUTY + 1), false);
    }

    private void promise16Numbers() {
        edges.sentence(16, ITS_NUMBER);
        ClauseShop shop = Shops.full();
        shop.pass(1);
        breach(shop, 90);
        edges.equal("the first duty", shop.isSuspended(0), false);
        edges.equal("the last duty", shop.isSuspended(99), true);
    }

    private void promise16NeitherOpenNorNoticed() {
        edges.sentence(16, "Returns whether it is; false if it is neither open nor noticed.");
        ClauseShop shop = Shops.stocked(0, 0, 1);
        shop.issue(7, 1, 0, 50, 1);
        Shops.signed(shop, 0, 1, 3, 5, 7, 9);
        shop.pass(1);
        shop.perform(1);
        shop.notice(2);
        shop.notice(3);
        shop.notice(4);
        shop.notice(0);
        shop.pass(1);
        shop.settle(2);
        edges.equal("a done one", shop.isSuspended(1), false);
        edges.equal("a settled one", shop.isSuspended(2), false);
        edges.equal("a breached one", shop.isSuspended(3), false);
        edges.equal("a noticed one", shop.isSuspended(4), true);
        edges.equal("an open one", shop.isSuspended(5), true);
        shop.perform(4);
        edges.equal("done while it was suspended", shop.isSuspended(4), false);
    }

    private void promise16AsLongAsNotSettled() {
        edges.sentence(16, SUSPENDED_AS_LONG);
        for (int side = 0; side < 2; side++) {
            ClauseShop shop = Shops.stocked(0, 0, 1);
            Shops.signed(shop, side, 2 + side, 5 - side);
            int held = side == 0 ? 2 : 1;
            int second = side == 0 ? 1 : 2;
            shop.pass(1);
            shop.notice(0);
            shop.notice(second);
            edges.equal("two notices", shop.isSuspended(held), false);
            shop.pass(1);
            edges.equal("two breaches", shop.isSuspended(held), true);
            shop.pass(100);
            edges.equal("for a long time", shop.isSuspended(held), true);
            shop.settle(0);
            edges.equal("one is left", shop.isSuspended(held), true);
            shop.settle(second);
            edges.equal("none is left", shop.isSuspended(held), false);
        }
    }

    private void promise16FromTheBreachOn() {
        edges.sentence(16, SUSPENDED_AS_LONG);
        ClauseShop shop = withOneNoticed(1);
        shop.pass(1);
        edges.equal("on the last day of the cure", shop.isSuspended(1), false);
        shop.pass(1);
        edges.equal("on the day of the breach", shop.isSuspended(1), true);
        shop.settle(0);
        edges.equal("settled on the same day", shop.isSuspended(1), false);
        ClauseShop none = new ClauseShop();
        none.issue(0, 0, 0, 0, 0);
        none.issue(1, 1, 0, 0, 0);
        Shops.signed(none, 0, 1);
        none.pass(1);
        breach(none, 0);
        edges.equal("by a breach with no penalty, too", none.isSuspended(1), true);
    }

    // ---- promise 17: perform

    private void promise17() {
        promise17Does();
        promise17Numbers();
        promise17LaterThanItsTerm();
        promise17WhenNoticed();
        promise17NeitherOpenNorNoticed();
        promise17AsLongAsOpenOrNoticed();
        refusesOtherNumbers(17, "perform", ClauseShop::perform);
    }

    private void promise17Does() {
        edges.sentence(17, "Does a duty.");
        ClauseShop shop = Shops.twoDuties(5, 0, 1);
        shop.perform(0);
        edges.equal("its state", shop.state(0), ClauseShop.DONE);
        edges.equal("on the first day", shop.day(0), 0);
        edges.equal("the other one", shop.state(1), ClauseShop.OPEN);
        Shops.passTo(shop, 0, 9999);
        shop.perform(1);
        edges.equal("on the last day", shop.day(1), 9999);
        edges.equal("it owes nothing", shop.owes(0, 0) + shop.owes(0, 1), 0);
    }

    private void promise17Numbers() {
        edges.sentence(17, ITS_NUMBER);
        ClauseShop shop = Shops.full();
        edges.equal("the first duty", shop.perform(0), false);
        edges.equal("the last duty", shop.perform(99), false);
        edges.equal("the first one is done", shop.state(0), ClauseShop.DONE);
        edges.equal("the last one is done", shop.state(99), ClauseShop.DONE);
        edges.equal("the one beside it is not", shop.state(98), ClauseShop.OPEN);
    }

    private void promise17LaterThanItsTerm() {
        lateSentence();
        for (int days : new int[] {0, 1, 100}) {
            edges.equal("on the first day, of days " + days, Shops.twoDuties(days, 0, 1).perform(0), false);
            ClauseShop shop = Shops.twoDuties(days, 0, 1);
            Shops.passTo(shop, 0, days);
            edges.equal("on its term of days " + days, shop.perform(0), false);
            shop.pass(1);
            edges.equal("a day later", shop.perform(1), true);
        }
        ClauseShop held = Shops.twoDuties(0, 0, 1);
        held.issue(3, 1, 2, 0, 1);
        Shops.signed(held, 0, 3);
        held.pass(1);
        breach(held, 2);
        held.pass(50);
        edges.equal("on or ahead of a term that was put off", held.perform(3), false);
        held.settle(2);
        edges.equal("later than a term that was not", held.perform(0), true);
    }

    private void lateSentence() {
        edges.sentence(17, "Returns whether it is done later than its term, or when it was noticed.");
    }

    private void promise17WhenNoticed() {
        lateSentence();
        edges.equal("on the day of its notice, with no cure", withOneNoticed(0).perform(0), true);
        ClauseShop shop = withOneNoticed(50);
        shop.pass(50);
        edges.equal("on the last day of its cure", shop.perform(0), true);
        ClauseShop held = withOneNoticed(0);
        held.issue(3, 1, 0, 50, 1);
        Shops.signed(held, 0, 3);
        held.pass(1);
        held.notice(2);
        held.notice(3);
        held.pass(90);
        edges.equal("suspended", held.isSuspended(3), true);
        edges.equal("with a cure that was put off", held.perform(3), true);
    }

    private void promise17NeitherOpenNorNoticed() {
        edges.sentence(17, "Throws `IllegalStateException` if it is neither open nor noticed");
        refuses("perform when done", s -> s.perform(Shops.DONE_DUTY));
        refuses("perform when breached", s -> s.perform(Shops.BREACHED_DUTY));
        refuses("perform when settled", s -> s.perform(Shops.SETTLED_DUTY));
        edges.state("perform on the day of the breach", Shops.after(() -> withOneNoticed(0), s -> s.pass(1)),
                s -> s.perform(0));
    }

    private void promise17AsLongAsOpenOrNoticed() {
        edges.sentence(17, "A duty can be done as long as it is open or noticed.");
        ClauseShop shop = Shops.busy();
        shop.perform(Shops.SUSPENDED_DUTY);
        edges.equal("a suspended one", shop.state(Shops.SUSPENDED_DUTY), ClauseShop.DONE);
        shop.perform(Shops.NOTICED_DUTY);
        edges.equal("a noticed one", shop.state(Shops.NOTICED_DUTY), ClauseShop.DONE);
        shop.pass(100);
        shop.perform(Shops.LATE_DUTY);
        edges.equal("an open one, long after its term", shop.state(Shops.LATE_DUTY), ClauseShop.DONE);
        edges.equal("what was noticed is not breached then", shop.day(Shops.NOTICED_DUTY), Shops.BUSY_DAY);
    }

    // ---- promise 18: notice

    private void promise18() {
        promise18GivesNotice();
        promise18Numbers();
        promise18EndOfTheCure();
        promise18NotOpenOrNotLate();
        promise18LaterThanItsTerm();
        refusesOtherNumbers(18, "notice", ClauseShop::notice);
    }

    private void promise18GivesNotice() {
        edges.sentence(18, "Gives notice of a duty.");
        ClauseShop shop = Shops.busy();
        shop.notice(Shops.LATE_DUTY);
        edges.equal("its state", shop.state(Shops.LATE_DUTY), ClauseShop.NOTICED);
        edges.equal("the one beside it", shop.state(Shops.LATE_DUTY + 1), ClauseShop.OPEN);
        edges.equal("nothing is owed by it", shop.owes(1, 0) + shop.owes(1, 1), 0);
    }

    private void promise18Numbers() {
        edges.sentence(18, ITS_NUMBER);
        ClauseShop shop = Shops.full();
        shop.pass(1);
        edges.equal("the first duty", shop.notice(0), 1);
        edges.equal("the last duty", shop.notice(99), 1);
        edges.equal("the one beside it", shop.state(98), ClauseShop.OPEN);
    }

    private void promise18EndOfTheCure() {
        edges.sentence(18, "Returns the end of its cure.");
        for (int cure : new int[] {0, 1, 50}) {
            ClauseShop shop = Shops.twoDuties(0, cure, 1);
            shop.pass(1);
            edges.equal("a cure of " + cure, shop.notice(0), 1 + cure);
            edges.equal("the day that counts", shop.day(0), 1 + cure);
        }
        ClauseShop last = Shops.onDay(9998);
        last.issue(0, 0, 0, 50, 1);
        Shops.signed(last, 0);
        last.pass(1);
        edges.equal("from the last day on", last.notice(0), 10049);
    }

    private void promise18NotOpenOrNotLate() {
        edges.sentence(18, "Throws `IllegalStateException` if it is not open, or the present day is not later than its "
                + "term");
        refuses("notice of a done one", s -> s.notice(Shops.DONE_DUTY));
        refuses("notice of a noticed one", s -> s.notice(Shops.NOTICED_DUTY));
        refuses("notice of a breached one", s -> s.notice(Shops.BREACHED_DUTY));
        refuses("notice of a settled one", s -> s.notice(Shops.SETTLED_DUTY));
        for (int days : new int[] {0, 1, 100}) {
            edges.state("on the first day, of days " + days, () -> Shops.twoDuties(days, 0, 1), s -> s.notice(0));
            edges.state("on its term of days " + days,
                    Shops.after(() -> Shops.twoDuties(days, 0, 1), s -> Shops.passTo(s, 0, days)), s -> s.notice(1));
        }
    }

    private void promise18LaterThanItsTerm() {
        edges.sentence(18, "Notice of a duty can be given when it is open and the present day is later than its term; "
                + "it is noticed then, and its cure ends so many days later as its version tells.");
        for (int days : new int[] {0, 1, 100}) {
            ClauseShop shop = Shops.twoDuties(days, 7, 1);
            Shops.passTo(shop, 0, days + 1);
            edges.equal("a day later than the term, of days " + days, shop.notice(0), days + 8);
            shop.pass(5);
            edges.equal("from the day of the notice, not from the term", shop.notice(1), days + 13);
        }
        Supplier<ClauseShop> putOff = () -> {
            ClauseShop shop = Shops.stocked(0, 0, 1);
            shop.issue(1, 1, 2, 7, 1);
            Shops.signed(shop, 0, 1);
            shop.pass(1);
            breach(shop, 0);
            return shop;
        };
        edges.state("on a term that is put off with the days", Shops.after(putOff, s -> s.pass(100)), s -> s.notice(1));
        ClauseShop settled = Shops.after(putOff, s -> s.pass(100)).get();
        settled.settle(0);
        settled.pass(1);
        edges.equal("a day after it was settled", settled.notice(1), 110);
    }

    // ---- promise 19: settle

    private void promise19() {
        promise19Settles();
        promise19Numbers();
        promise19Penalty();
        promise19NotBreached();
        promise19BreachedOnesCanBe();
        refusesOtherNumbers(19, "settle", ClauseShop::settle);
    }

    private void promise19Settles() {
        edges.sentence(19, "Settles a duty.");
        ClauseShop shop = Shops.busy();
        shop.settle(Shops.BREACHED_DUTY);
        edges.equal("its state", shop.state(Shops.BREACHED_DUTY), ClauseShop.SETTLED);
        edges.equal("its day", shop.day(Shops.BREACHED_DUTY), Shops.BUSY_DAY);
        edges.equal("it is owed no more", shop.owes(Shops.SIGNED, 0), 0);
        edges.equal("it holds up nothing", shop.isSuspended(Shops.SUSPENDED_DUTY), false);
    }

    private void promise19Numbers() {
        edges.sentence(19, ITS_NUMBER);
        ClauseShop shop = Shops.full();
        shop.pass(1);
        shop.notice(0);
        shop.notice(99);
        shop.pass(1);
        edges.equal("the first duty", shop.settle(0), 1);
        edges.equal("the last duty is breached still", shop.state(99), ClauseShop.BREACHED);
        edges.equal("the last duty", shop.settle(99), 1);
    }

    private void promise19Penalty() {
        edges.sentence(19, "Returns its penalty.");
        ClauseShop shop = new ClauseShop();
        int[] penalties = {0, 1, 1000};
        for (int clause = 0; clause < 3; clause++) {
            shop.issue(clause, clause % 2, 0, 0, penalties[clause]);
        }
        Shops.signed(shop, 0, 1, 2);
        shop.pass(1);
        for (int duty = 0; duty < 3; duty++) {
            shop.notice(duty);
            shop.issue(duty, 1, 7, 7, 7);
        }
        shop.pass(1);
        for (int duty = 0; duty < 3; duty++) {
            edges.equal("a penalty of " + penalties[duty] + ", nothing set off", shop.settle(duty), penalties[duty]);
        }
    }

    private void promise19NotBreached() {
        edges.sentence(19, "Throws `IllegalStateException` if it is not breached");
        refuses("settle of an open one", s -> s.settle(Shops.LATE_DUTY));
        refuses("settle of a suspended one", s -> s.settle(Shops.SUSPENDED_DUTY));
        refuses("settle of a done one", s -> s.settle(Shops.DONE_DUTY));
        refuses("settle of a noticed one", s -> s.settle(Shops.NOTICED_DUTY));
        refuses("settle of a settled one", s -> s.settle(Shops.SETTLED_DUTY));
        edges.state("settle on the last day of the cure", () -> withOneNoticed(0), s -> s.settle(0));
        edges.state("settle twice", Shops.after(Shops::busy, s -> s.settle(Shops.BREACHED_DUTY)),
                s -> s.settle(Shops.BREACHED_DUTY));
    }

    private void promise19BreachedOnesCanBe() {
        edges.sentence(19, "A breached duty can be settled.");
        ClauseShop shop = withOneNoticed(0);
        shop.pass(1);
        edges.equal("on the day of the breach", shop.settle(0), 1);
        edges.equal("its day", shop.day(0), 2);
        ClauseShop late = withOneNoticed(0);
        Shops.passTo(late, 1, 9999);
        edges.equal("on the last day", late.settle(0), 1);
        edges.equal("its day too", late.day(0), 9999);
        ClauseShop both = Shops.twoDuties(0, 0, 1);
        both.pass(1);
        both.notice(0);
        both.notice(1);
        both.pass(1);
        both.settle(1);
        edges.equal("while the other side is in breach", both.state(1), ClauseShop.SETTLED);
    }

    // ---- promise 20: owes

    private void promise20() {
        promise20Owes();
        promise20Contract();
        promise20Side();
        promise20WhatItOwes();
        promise20SetOff();
        promise20Most();
        promise20OutOfRange();
        edges.sentence(20, "Throws `IndexOutOfBoundsException` if there is no such contract");
        int[] wrong = {-1, Shops.BUSY_CONTRACTS, 10, 256, 65536, Integer.MIN_VALUE, Integer.MAX_VALUE};
        edges.indices("owes", wrong, Shops::busy, (s, contract) -> s.owes(contract, 0));
        edges.indices("owes", new int[] {0, -1}, ClauseShop::new, (s, contract) -> s.owes(contract, 1));
        edges.indices("owes", new int[] {10, -1}, Shops::full, (s, contract) -> s.owes(contract, 1));
    }

    private void promise20Owes() {
        edges.sentence(20, "Returns what a side owes in a contract.");
        ClauseShop shop = Shops.busy();
        edges.equal("the side in breach", shop.owes(Shops.SIGNED, 0), 102);
        edges.equal("the other side", shop.owes(Shops.SIGNED, 1), 0);
        for (int contract = 1; contract < Shops.BUSY_CONTRACTS; contract++) {
            edges.equal("in contract " + contract, shop.owes(contract, 0), 0);
        }
    }

    private void promise20Contract() {
        edges.sentence(20, "`contract`: its number");
        ClauseShop shop = Shops.full();
        shop.pass(1);
        shop.notice(0);
        shop.notice(90);
        shop.notice(92);
        shop.pass(1);
        edges.equal("the first contract", shop.owes(0, 0), 1);
        edges.equal("the last contract", shop.owes(9, 0), 2);
        edges.equal("the one beside it", shop.owes(8, 0), 0);
    }

    private void promise20Side() {
        edges.sentence(20, "`side`: 0 or 1");
        ClauseShop shop = Shops.twoDuties(0, 0, 9);
        shop.pass(1);
        breach(shop, 0);
        edges.equal("side 0", shop.owes(0, 0), 9);
        shop.settle(0);
        breach(shop, 1);
        edges.equal("side 1", shop.owes(0, 1), 9);
        edges.arguments("owes in no draft", Edges.NO_SIDES, Shops::busy, (s, side) -> s.owes(Shops.SIGNED, side));
        edges.arguments("owes in a draft", Edges.NO_SIDES, Shops::busy, (s, side) -> s.owes(Shops.EMPTY, side));
    }

    private void promise20WhatItOwes() {
        edges.sentence(20, "Returns what it owes.");
        ClauseShop shop = Shops.twoDuties(0, 0, 9);
        owing(shop, "late", 0, 0);
        shop.pass(1);
        shop.notice(0);
        owing(shop, "noticed", 0, 0);
        shop.pass(1);
        owing(shop, "breached", 9, 0);
        shop.pass(100);
        owing(shop, "long since", 9, 0);
        shop.settle(0);
        owing(shop, "settled", 0, 0);
    }

    private void owing(ClauseShop shop, String when, int first, int second) {
        edges.equal("side 0, " + when, shop.owes(0, 0), first);
        edges.equal("side 1, " + when, shop.owes(0, 1), second);
    }

    private void promise20SetOff() {
        edges.sentence(20, SUM_LESS_THE_OTHERS);
        ClauseShop shop = new ClauseShop();
        int[] penalties = {300, 299, 0, 1, 0, 1};
        for (int clause = 0; clause < penalties.length; clause++) {
            shop.issue(clause, clause % 2, 0, 0, penalties[clause]);
        }
        Shops.signed(shop, 0, 1, 2, 3, 4, 5);
        shop.pass(1);
        for (int duty = 0; duty < penalties.length; duty++) {
            shop.notice(duty);
        }
        shop.pass(1);
        owing(shop, "300 against 301", 0, 1);
        shop.settle(3);
        owing(shop, "300 against 300", 0, 0);
        shop.settle(5);
        owing(shop, "300 against 299", 1, 0);
        shop.settle(2);
        owing(shop, "of which nothing was 0", 1, 0);
        shop.settle(1);
        owing(shop, "300 against none", 300, 0);
        shop.settle(0);
        owing(shop, "none against none", 0, 0);
    }

    private void promise20Most() {
        edges.sentence(20, SUM_LESS_THE_OTHERS);
        ClauseShop shop = new ClauseShop();
        for (int clause = 0; clause < 10; clause++) {
            shop.issue(clause, 1, 0, 0, 1000);
        }
        Shops.signed(shop, 0, 1, 2, 3, 4, 5, 6, 7, 8, 9);
        shop.pass(1);
        for (int duty = 0; duty < 10; duty++) {
            shop.notice(duty);
        }
        shop.pass(1);
        owing(shop, "ten penalties of 1000", 0, 10000);
    }

    private void promise20OutOfRange() {
        edges.sentence(20, "Throws `IllegalArgumentException` if side is out of range");
        for (int number = 0; number < Shops.BUSY_CONTRACTS; number++) {
            int contract = number;
            edges.argument("too large, in " + contract, Shops::busy, s -> s.owes(contract, 2));
            edges.argument("too small, in " + contract, Shops::busy, s -> s.owes(contract, -1));
        }
    }
}
