/** Promises 1 to 4. */
public final class LibraryTest {
    private static final Checks CHECKS = new Checks("LibraryTest");
    private static final int[] WRONG_CLAUSES = {-1, 10, Integer.MIN_VALUE, Integer.MAX_VALUE};

    public static void main(String[] args) {
        promise1NewObject();
        promise2Issue();
        promise2IssueOutOfRange();
        promise2IssueTooMany();
        promise2IssueKeepsItsTerms();
        promise3Relate();
        promise3RelateOutOfRange();
        promise4Latest();
        CHECKS.finish();
    }

    private static void promise1NewObject() {
        ClauseShop shop = new ClauseShop();
        for (int clause = 0; clause < 10; clause++) {
            CHECKS.equal("latest(" + clause + ") of a new shop", shop.latest(clause), 0);
        }
        CHECKS.equal("duties() of a new shop", shop.duties(), 0);
        CHECKS.index("state(0) of a new shop", () -> shop.state(0));
        CHECKS.index("whyNot(0) of a new shop", () -> shop.whyNot(0));
        shop.issue(0, 0, 0, 0, 0);
        Shops.signed(shop, 0);
        CHECKS.equal("the term of no days on the first day", shop.day(0), 0);
        CHECKS.equal("another shop knows nothing of it", new ClauseShop().latest(0), 0);
    }

    private static void promise2Issue() {
        ClauseShop shop = new ClauseShop();
        CHECKS.equal("the first version", shop.issue(0, 0, 0, 0, 0), 1);
        CHECKS.equal("the second version, at the upper edges", shop.issue(0, 1, 100, 50, 1000), 2);
        CHECKS.equal("the first version of the last clause", shop.issue(9, 1, 100, 50, 1000), 1);
        CHECKS.equal("latest(0)", shop.latest(0), 2);
        CHECKS.equal("latest(9)", shop.latest(9), 1);
        CHECKS.equal("latest(1)", shop.latest(1), 0);
    }

    private static void promise2IssueOutOfRange() {
        ClauseShop shop = new ClauseShop();
        for (int clause : WRONG_CLAUSES) {
            CHECKS.argument("issue of clause " + clause, () -> shop.issue(clause, 0, 1, 1, 1));
        }
        for (int obligor : new int[] {-1, 2, Integer.MIN_VALUE, Integer.MAX_VALUE}) {
            CHECKS.argument("issue for side " + obligor, () -> shop.issue(0, obligor, 1, 1, 1));
        }
        for (int days : new int[] {-1, 101, Integer.MIN_VALUE, Integer.MAX_VALUE}) {
            CHECKS.argument("issue with days " + days, () -> shop.issue(0, 0, days, 1, 1));
        }
        for (int cure : new int[] {-1, 51, Integer.MIN_VALUE, Integer.MAX_VALUE}) {
            CHECKS.argument("issue with cure " + cure, () -> shop.issue(0, 0, 1, cure, 1));
        }
        for (int penalty : new int[] {-1, 1001, Integer.MIN_VALUE, Integer.MAX_VALUE}) {
            CHECKS.argument("issue with penalty " + penalty, () -> shop.issue(0, 0, 1, 1, penalty));
        }
        CHECKS.equal("no version came of it", shop.latest(0), 0);
    }

    private static void promise2IssueTooMany() {
        ClauseShop shop = new ClauseShop();
        for (int number = 1; number <= 9; number++) {
            CHECKS.equal("version", shop.issue(4, 0, 1, 1, 1), number);
        }
        CHECKS.state("a tenth version", () -> shop.issue(4, 0, 1, 1, 1));
        CHECKS.argument("a tenth version out of range", () -> shop.issue(4, 0, 1, 1, 1001));
        CHECKS.equal("latest(4)", shop.latest(4), 9);
        CHECKS.equal("another clause still has room", shop.issue(5, 0, 1, 1, 1), 1);
    }

    private static void promise2IssueKeepsItsTerms() {
        ClauseShop shop = new ClauseShop();
        shop.issue(3, 1, 17, 23, 77);
        Shops.signed(shop, 3);
        CHECKS.equal("the days of the version", shop.day(0), 17);
        shop.pass(18);
        CHECKS.equal("the cure of the version", shop.notice(0), 18 + 23);
        shop.pass(24);
        CHECKS.equal("the penalty of the version falls on its obligor", shop.owes(0, 1), 77);
        CHECKS.equal("and not on the other side", shop.owes(0, 0), 0);
    }

    private static void promise3Relate() {
        ClauseShop shop = new ClauseShop();
        shop.relate(0, 0, 0);
        shop.relate(0, 1022, 1022);
        shop.relate(9, 511, 511);
        shop.relate(9, 0, 0);
        CHECKS.equal("a relation puts nothing into the library", shop.latest(0), 0);
        shop.issue(0, 0, 1, 1, 1);
        shop.issue(1, 0, 1, 1, 1);
        int draft = shop.begin();
        Shops.agree(shop, draft, 0);
        CHECKS.equal("a set ahead of the first version", shop.whyNot(draft), 4);
        shop.relate(0, 0, 2);
        CHECKS.equal("both sets are replaced", shop.whyNot(draft), 0);
        Shops.agree(shop, draft, 1);
        CHECKS.equal("a forbidden clause", shop.whyNot(draft), 5);
        shop.relate(0, 2, 0);
        CHECKS.equal("a needed clause", shop.whyNot(draft), 0);
    }

    private static void promise3RelateOutOfRange() {
        ClauseShop shop = new ClauseShop();
        for (int clause : WRONG_CLAUSES) {
            CHECKS.argument("relate of clause " + clause, () -> shop.relate(clause, 0, 0));
        }
        for (int set : new int[] {-1, 1024, Integer.MIN_VALUE, Integer.MAX_VALUE, -1024}) {
            CHECKS.argument("relate with needs " + set, () -> shop.relate(2, set, 0));
            CHECKS.argument("relate with forbids " + set, () -> shop.relate(2, 0, set));
        }
        for (int i = 0; i < 10; i++) {
            int clause = i;
            CHECKS.argument("needs itself: " + i, () -> shop.relate(clause, 1 << clause, 0));
            CHECKS.argument("forbids itself: " + i, () -> shop.relate(clause, 0, 1 << clause));
            CHECKS.argument("needs itself too: " + i, () -> shop.relate(clause, 1023, 0));
            CHECKS.argument("forbids itself too: " + i, () -> shop.relate(clause, 0, 1023));
        }
        shop.issue(2, 0, 1, 1, 1);
        int draft = shop.begin();
        Shops.agree(shop, draft, 2);
        CHECKS.argument("needs one, forbids itself", () -> shop.relate(2, 1, 4));
        CHECKS.equal("a refused call sets neither", shop.whyNot(draft), 0);
    }

    private static void promise4Latest() {
        ClauseShop shop = new ClauseShop();
        for (int clause : WRONG_CLAUSES) {
            CHECKS.argument("latest(" + clause + ")", () -> shop.latest(clause));
        }
        CHECKS.equal("latest of none", shop.latest(6), 0);
        shop.issue(6, 0, 1, 1, 1);
        CHECKS.equal("latest of one", shop.latest(6), 1);
        shop.issue(6, 1, 2, 2, 2);
        CHECKS.equal("latest of two", shop.latest(6), 2);
        CHECKS.equal("latest of the neighbour below", shop.latest(5), 0);
        CHECKS.equal("latest of the neighbour above", shop.latest(7), 0);
    }
}
