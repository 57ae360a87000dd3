/** Ways to a state that many tests start from. */
final class Shops {
    private Shops() {
    }

    /** Both sides mark the clause in. */
    static void agree(ClauseShop shop, int contract, int clause) {
        shop.mark(contract, 0, clause, 1);
        shop.mark(contract, 1, clause, 1);
    }

    /** A contract of these clauses that both sides have signed. */
    static int signed(ClauseShop shop, int... clauses) {
        int contract = shop.begin();
        for (int clause : clauses) {
            agree(shop, contract, clause);
        }
        shop.sign(contract, 0);
        shop.sign(contract, 1);
        return contract;
    }

    /** A shop with the first version of every clause: even ones bind side 0, odd ones side 1. */
    static ClauseShop stocked(int days, int cure, int penalty) {
        ClauseShop shop = new ClauseShop();
        for (int clause = 0; clause < 10; clause++) {
            shop.issue(clause, clause % 2, days, cure, penalty);
        }
        return shop;
    }

    /** Whether both sides have to sign before duties come of the draft, so that no signature stands. */
    static boolean hasNoSignature(ClauseShop shop, int contract, int signer) {
        try {
            return shop.sign(contract, signer) == 0 && shop.sign(contract, 1 - signer) > 0;
        } catch (IllegalStateException e) {
            return false;
        }
    }
}
