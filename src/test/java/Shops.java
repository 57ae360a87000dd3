import java.util.function.Consumer;
import java.util.function.Supplier;

/** Ways to a state that many tests start from. */
final class Shops {
    private Shops() {
    }

    /** Both sides mark the clause in. */
    static void agree(ClauseShop shop, int contract, int clause) {
        shop.mark(contract, 0, clause, 1);
        shop.mark(contract, 1, clause, 1);
    }

    /** Both sides mark the clause out, of which neither had done so. */
    static void takeOut(ClauseShop shop, int contract, int clause) {
        shop.mark(contract, 0, clause, 2);
        shop.mark(contract, 1, clause, 2);
    }

    /** A contract of these clauses that both sides have signed. */
    static int signed(ClauseShop shop, int... clauses) {
        int contract = shop.begin();
        for (int clause : clauses) {
            agree(shop, contract, clause);
        }
        shop.sign(contract, 0);
        shop.sign(contract, 1);
        return contract;
    }

    /** A shop with the first version of every clause: even ones bind side 0, odd ones side 1. */
    static ClauseShop stocked(int days, int cure, int penalty) {
        ClauseShop shop = new ClauseShop();
        for (int clause = 0; clause < 10; clause++) {
            shop.issue(clause, clause % 2, days, cure, penalty);
        }
        return shop;
    }

    /** A hundred duties, of ten contracts with an item for every clause; no more contracts can be begun. */
    static ClauseShop full() {
        ClauseShop shop = stocked(0, 0, 1);
        for (int contract = 0; contract < 10; contract++) {
            signed(shop, 0, 1, 2, 3, 4, 5, 6, 7, 8, 9);
        }
        return shop;
    }

    /** Ten drafts without an item, and the first version of every clause. */
    static ClauseShop tenDrafts() {
        ClauseShop shop = stocked(1, 2, 3);
        for (int contract = 0; contract < 10; contract++) {
            shop.begin();
        }
        return shop;
    }

    /** On the day that has to be. */
    static ClauseShop onDay(int day) {
        ClauseShop shop = stocked(0, 0, 1);
        passTo(shop, 0, day);
        return shop;
    }

    static void passTo(ClauseShop shop, int today, int day) {
        for (int left = day - today; left > 0; left -= Math.min(left, 100)) {
            shop.pass(Math.min(left, 100));
        }
    }

    /** Duty 0 binds side 0 and duty 1 binds side 1, both from the first day on. */
    static ClauseShop twoDuties(int days, int cure, int penalty) {
        ClauseShop shop = stocked(days, cure, penalty);
        signed(shop, 0, 1);
        return shop;
    }

    /** A way to a shop, and then some calls more. */
    static Supplier<ClauseShop> after(Supplier<ClauseShop> start, Consumer<ClauseShop> calls) {
        return () -> {
            ClauseShop shop = start.get();
            calls.accept(shop);
            return shop;
        };
    }

    // what is in busy()
    static final int BUSY_DAY = 8;
    static final int SETTLED_DUTY = 0, DONE_DUTY = 1, BREACHED_DUTY = 2, SUSPENDED_DUTY = 3, NOTICED_DUTY = 4,
            LATE_DUTY = 5;
    static final int SIGNED = 0, SIGNED_BY_0 = 2, SIGNED_BY_1 = 3, DISPUTED = 4, LACKING = 5, FORBIDDEN = 6, EMPTY = 7;
    static final int BUSY_CONTRACTS = 8, BUSY_DUTIES = 7;

    /** On day 8, with duties in all states and drafts that stand in all ways; two more contracts can be begun. */
    static ClauseShop busy() {
        ClauseShop shop = new ClauseShop();
        for (int clause = 0; clause < 10; clause++) {
            shop.issue(clause, clause % 2, 0, clause + 1, 100 + clause);
        }
        busyDuties(shop);
        busyDrafts(shop);
        return shop;
    }

    private static void busyDuties(ClauseShop shop) {
        signed(shop, 0, 1, 2, 3, 4);
        shop.pass(1);
        shop.notice(SETTLED_DUTY);
        shop.pass(2);
        shop.settle(SETTLED_DUTY);
        shop.perform(DONE_DUTY);
        shop.notice(BREACHED_DUTY);
        shop.pass(4);
        shop.notice(NOTICED_DUTY);
        signed(shop, 1, 2);
        shop.pass(1);
    }

    private static void busyDrafts(ClauseShop shop) {
        for (int contract = SIGNED_BY_0; contract < BUSY_CONTRACTS; contract++) {
            shop.begin();
        }
        agree(shop, SIGNED_BY_0, 5);
        agree(shop, SIGNED_BY_0, 6);
        shop.sign(SIGNED_BY_0, 0);
        shop.issue(5, 0, 9, 9, 9);
        agree(shop, SIGNED_BY_1, 7);
        shop.sign(SIGNED_BY_1, 1);
        for (int clause = 0; clause < 4; clause++) {
            shop.mark(DISPUTED, clause % 2, clause, 1);
        }
        shop.mark(DISPUTED, 1, 0, 2);
        shop.mark(DISPUTED, 0, 1, 2);
        agree(shop, DISPUTED, 4);
        shop.relate(8, 1 << 9, 0);
        agree(shop, LACKING, 8);
        shop.relate(9, 0, 1 << 7);
        agree(shop, FORBIDDEN, 7);
        agree(shop, FORBIDDEN, 9);
        for (int number = 2; number <= 9; number++) {
            shop.issue(0, 1, number, number, number);
        }
    }

    /** Whether both sides have to sign before duties come of the draft, so that no signature stands. */
    static boolean hasNoSignature(ClauseShop shop, int contract, int signer) {
        try {
            return shop.sign(contract, signer) == 0 && shop.sign(contract, 1 - signer) > 0;
        } catch (IllegalStateException e) {
            return false;
        }
    }
}
