/** Promises 1 to 4 with ordinary calls; LibraryEdges has the edges of each sentence. */
public final class LibraryTest {
    private static final Checks CHECKS = new Checks("LibraryTest");

    public static void main(String[] args) {
        promise1NewObject();
        promise2Issue();
        promise2IssueKeepsItsTerms();
        promise3Relate();
        promise4Latest();
        CHECKS.finish();
    }

    private static void promise1NewObject() {
        ClauseShop shop = new ClauseShop();
        for (int clause = 0; clause < 10; clause++) {
            CHECKS.equal("latest(" + clause + ") of a new shop", shop.latest(clause), 0);
        }
        CHECKS.equal("duties() of a new shop", shop.duties(), 0);
        CHECKS.index("state(0) of a new shop", () -> shop.state(0));
        CHECKS.index("whyNot(0) of a new shop", () -> shop.whyNot(0));
        shop.issue(0, 0, 0, 0, 0);
        Shops.signed(shop, 0);
        CHECKS.equal("the term of no days on the first day", shop.day(0), 0);
        CHECKS.equal("another shop knows nothing of it", new ClauseShop().latest(0), 0);
    }

    private static void promise2Issue() {
        ClauseShop shop = new ClauseShop();
        CHECKS.equal("the first version", shop.issue(0, 0, 0, 0, 0), 1);
        CHECKS.equal("the second version, at the upper edges", shop.issue(0, 1, 100, 50, 1000), 2);
        CHECKS.equal("the first version of the last clause", shop.issue(9, 1, 100, 50, 1000), 1);
        CHECKS.equal("latest(0)", shop.latest(0), 2);
        CHECKS.equal("latest(9)", shop.latest(9), 1);
        CHECKS.equal("latest(1)", shop.latest(1), 0);
    }

    private static void promise2IssueKeepsItsTerms() {
        ClauseShop shop = new ClauseShop();
        shop.issue(3, 1, 17, 23, 77);
        Shops.signed(shop, 3);
        CHECKS.equal("the days of the version", shop.day(0), 17);
        shop.pass(18);
        CHECKS.equal("the cure of the version", shop.notice(0), 18 + 23);
        shop.pass(24);
        CHECKS.equal("the penalty of the version falls on its obligor", shop.owes(0, 1), 77);
        CHECKS.equal("and not on the other side", shop.owes(0, 0), 0);
    }

    private static void promise3Relate() {
        ClauseShop shop = new ClauseShop();
        shop.relate(0, 0, 0);
        shop.relate(0, 1022, 1022);
        shop.relate(9, 511, 511);
        shop.relate(9, 0, 0);
        CHECKS.equal("a relation puts nothing into the library", shop.latest(0), 0);
        shop.issue(0, 0, 1, 1, 1);
        shop.issue(1, 0, 1, 1, 1);
        int draft = shop.begin();
        Shops.agree(shop, draft, 0);
        CHECKS.equal("a set ahead of the first version", shop.whyNot(draft), 4);
        shop.relate(0, 0, 2);
        CHECKS.equal("both sets are replaced", shop.whyNot(draft), 0);
        Shops.agree(shop, draft, 1);
        CHECKS.equal("a forbidden clause", shop.whyNot(draft), 5);
        shop.relate(0, 2, 0);
        CHECKS.equal("a needed clause", shop.whyNot(draft), 0);
    }

    private static void promise4Latest() {
        ClauseShop shop = new ClauseShop();
        CHECKS.equal("latest of none", shop.latest(6), 0);
        shop.issue(6, 0, 1, 1, 1);
        CHECKS.equal("latest of one", shop.latest(6), 1);
        shop.issue(6, 1, 2, 2, 2);
        CHECKS.equal("latest of two", shop.latest(6), 2);
        CHECKS.equal("latest of the neighbour below", shop.latest(5), 0);
        CHECKS.equal("latest of the neighbour above", shop.latest(7), 0);
    }
}
