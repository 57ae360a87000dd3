/** Promises 5 to 11 with ordinary calls; DraftEdges has the edges of each sentence. */
public final class DraftTest {
    private static final Checks CHECKS = new Checks("DraftTest");

    public static void main(String[] args) {
        promise5Begin();
        promise6Mark();
        promise6MarkTakesOut();
        promise6MarkAndSignatures();
        promise7Renew();
        promise7RenewAndSignatures();
        promise8Version();
        promise9Offered();
        promise10WhyNot();
        promise11Sign();
        promise11SignMakesDuties();
        promise11SignAndRelations();
        CHECKS.finish();
    }

    private static void promise5Begin() {
        ClauseShop shop = new ClauseShop();
        for (int number = 0; number < 10; number++) {
            int next = number;
            CHECKS.index("whyNot ahead of begin", () -> shop.whyNot(next));
            CHECKS.equal("begin()", shop.begin(), number);
            CHECKS.equal("a new draft has no item", shop.whyNot(number), 2);
        }
        CHECKS.state("an eleventh contract", () -> shop.begin());
        CHECKS.state("again", () -> shop.begin());
        CHECKS.index("it does not come to be", () -> shop.whyNot(10));

        ClauseShop full = Shops.stocked(1, 1, 1);
        for (int number = 0; number < 10; number++) {
            Shops.signed(full, 0);
        }
        CHECKS.state("signed contracts count too", () -> full.begin());
    }

    private static void promise6Mark() {
        ClauseShop shop = Shops.stocked(1, 1, 1);
        shop.issue(3, 1, 2, 2, 2);
        int draft = shop.begin();
        int other = shop.begin();
        CHECKS.equal("the first mark", shop.mark(draft, 0, 3, 1), 0);
        CHECKS.equal("makes an item of the latest version", shop.version(draft, 3), 2);
        CHECKS.equal("the same mark again", shop.mark(draft, 0, 3, 1), 1);
        CHECKS.equal("the first mark of the other side", shop.mark(draft, 1, 3, 2), 0);
        CHECKS.equal("out against in leaves the item", shop.version(draft, 3), 2);
        CHECKS.equal("out again", shop.mark(draft, 1, 3, 2), 2);
        CHECKS.equal("out becomes in", shop.mark(draft, 1, 3, 1), 2);
        CHECKS.equal("in becomes out", shop.mark(draft, 0, 3, 2), 1);
        CHECKS.equal("in against out leaves the item", shop.version(draft, 3), 2);
        CHECKS.equal("side 1 begins an item too", shop.mark(draft, 1, 9, 1), 0);
        CHECKS.equal("side 0 had no mark on it", shop.mark(draft, 0, 9, 1), 0);
        CHECKS.equal("the other draft has none of it", shop.version(other, 3), 0);
        shop.issue(9, 0, 5, 5, 5);
        shop.mark(draft, 0, 9, 2);
        shop.mark(draft, 0, 9, 1);
        CHECKS.equal("a mark brings no later version", shop.version(draft, 9), 1);
    }

    private static void promise6MarkTakesOut() {
        ClauseShop shop = Shops.stocked(1, 1, 1);
        int draft = shop.begin();
        for (int side = 0; side < 2; side++) {
            shop.mark(draft, side, 0, 1);
            CHECKS.equal("out against none", shop.mark(draft, side, 0, 2), 1);
            CHECKS.equal("takes the item out", shop.version(draft, 0), 0);
            int away = side;
            CHECKS.state("which can't be marked out then", () -> shop.mark(draft, away, 0, 2));

            Shops.agree(shop, draft, 1);
            CHECKS.equal("out by one side", shop.mark(draft, side, 1, 2), 1);
            CHECKS.equal("leaves the item", shop.version(draft, 1), 1);
            CHECKS.equal("out by the other side", shop.mark(draft, 1 - side, 1, 2), 1);
            CHECKS.equal("takes the item out too", shop.version(draft, 1), 0);
            CHECKS.equal("a new item has no mark of before", shop.mark(draft, side, 1, 1), 0);
            CHECKS.equal("of either side", shop.mark(draft, 1 - side, 1, 2), 0);
            shop.mark(draft, side, 1, 2);
        }
        shop.mark(draft, 0, 2, 1);
        shop.issue(2, 0, 3, 3, 3);
        shop.mark(draft, 0, 2, 2);
        shop.mark(draft, 0, 2, 1);
        CHECKS.equal("a new item has the version of its time", shop.version(draft, 2), 2);
    }

    private static void promise6MarkAndSignatures() {
        ClauseShop shop = Shops.stocked(1, 1, 1);
        int same = shop.begin();
        Shops.agree(shop, same, 0);
        shop.sign(same, 0);
        shop.mark(same, 0, 0, 1);
        shop.mark(same, 1, 0, 1);
        CHECKS.state("a mark that stays leaves the signature", () -> shop.sign(same, 0));
        CHECKS.equal("so the other side makes it two", shop.sign(same, 1), 1);

        for (int side = 0; side < 2; side++) {
            markTakesSignature(shop, side, 0);
            markTakesSignature(shop, side, 1);
        }

        int refused = shop.begin();
        Shops.agree(shop, refused, 0);
        shop.sign(refused, 1);
        CHECKS.state("out without an item", () -> shop.mark(refused, 0, 5, 2));
        CHECKS.argument("a wrong mark", () -> shop.mark(refused, 0, 0, 3));
        CHECKS.equal("a refused mark leaves the signature", shop.sign(refused, 0), 1);
    }

    private static void markTakesSignature(ClauseShop shop, int side, int signer) {
        String who = ": side " + side + " marks, side " + signer + " had signed";
        int changed = shop.begin();
        Shops.agree(shop, changed, 0);
        shop.sign(changed, signer);
        shop.mark(changed, side, 0, 2);
        shop.mark(changed, side, 0, 1);
        CHECKS.isTrue("a mark that changed" + who, Shops.hasNoSignature(shop, changed, signer));

        int more = shop.begin();
        Shops.agree(shop, more, 0);
        shop.sign(more, signer);
        shop.mark(more, side, 1, 1);
        shop.mark(more, side, 1, 2);
        CHECKS.isTrue("an item that came and went" + who, Shops.hasNoSignature(shop, more, signer));
    }

    private static void promise7Renew() {
        ClauseShop shop = Shops.stocked(1, 1, 1);
        for (int side = 0; side < 2; side++) {
            int draft = shop.begin();
            Shops.agree(shop, draft, 2);
            int before = shop.version(draft, 2);
            shop.issue(2, 0, 7, 7, 7);
            shop.issue(2, 1, 9, 9, 9);
            CHECKS.equal("renew answers the version before", shop.renew(draft, side, 2), before);
            CHECKS.equal("and brings the latest", shop.version(draft, 2), before + 2);
            CHECKS.equal("the side has marked it in", shop.mark(draft, side, 2, 1), 1);
            CHECKS.equal("the other side has no mark on it", shop.mark(draft, 1 - side, 2, 1), 0);
        }
        int disputed = shop.begin();
        shop.mark(disputed, 0, 4, 1);
        shop.mark(disputed, 1, 4, 2);
        shop.issue(4, 0, 7, 7, 7);
        CHECKS.equal("a side that was against it may renew", shop.renew(disputed, 1, 4), 1);
        CHECKS.equal("it is for it then", shop.mark(disputed, 1, 4, 1), 1);
        CHECKS.equal("and the other side has no mark", shop.mark(disputed, 0, 4, 2), 0);
        CHECKS.equal("so out against in leaves it", shop.version(disputed, 4), 2);

        int contract = shop.begin();
        Shops.agree(shop, contract, 6);
        shop.issue(6, 1, 33, 7, 7);
        shop.renew(contract, 0, 6);
        shop.mark(contract, 1, 6, 1);
        shop.sign(contract, 0);
        shop.sign(contract, 1);
        CHECKS.equal("the duty has the days of the new version", shop.day(0), 33);
    }

    private static void promise7RenewAndSignatures() {
        ClauseShop shop = Shops.stocked(1, 1, 1);
        for (int signer = 0; signer < 2; signer++) {
            int draft = shop.begin();
            Shops.agree(shop, draft, 0);
            shop.sign(draft, signer);
            shop.issue(0, 0, 2, 2, 2);
            int again = signer;
            CHECKS.state("the signature stands as long as the item does", () -> shop.sign(draft, again));
            shop.renew(draft, 0, 0);
            shop.mark(draft, 1, 0, 1);
            CHECKS.isTrue("renew takes the signature", Shops.hasNoSignature(shop, draft, signer));
        }

        int kept = shop.begin();
        Shops.agree(shop, kept, 0);
        shop.sign(kept, 0);
        CHECKS.state("renew of the latest version", () -> shop.renew(kept, 0, 0));
        CHECKS.equal("leaves the signature", shop.sign(kept, 1), 1);
    }

    private static void promise8Version() {
        ClauseShop shop = Shops.stocked(1, 1, 1);
        int draft = shop.begin();
        for (int clause = 0; clause < 10; clause++) {
            CHECKS.equal("no item", shop.version(draft, clause), 0);
        }
        Shops.agree(shop, draft, 9);
        CHECKS.equal("of an item", shop.version(draft, 9), 1);
        shop.issue(9, 0, 2, 2, 2);
        CHECKS.equal("a later version is for the library alone", shop.version(draft, 9), 1);
        shop.sign(draft, 0);
        shop.sign(draft, 1);
        CHECKS.equal("in a signed contract", shop.version(draft, 9), 1);
        CHECKS.equal("of no item in it", shop.version(draft, 0), 0);
    }

    private static void promise9Offered() {
        ClauseShop shop = Shops.stocked(1, 1, 1);
        int draft = shop.begin();
        CHECKS.equal("of no items", shop.offered(draft), 0);
        for (int clause = 0; clause < 10; clause++) {
            shop.mark(draft, clause % 2, clause, 1);
        }
        CHECKS.equal("of the latest", shop.offered(draft), 0);
        for (int clause = 0; clause < 10; clause++) {
            shop.issue(clause, 0, 2, 2, 2);
            CHECKS.equal("one more", shop.offered(draft), clause + 1);
            shop.issue(clause, 0, 3, 3, 3);
            CHECKS.equal("two later versions are one item", shop.offered(draft), clause + 1);
        }
        shop.renew(draft, 0, 4);
        CHECKS.equal("a renewed one is not offered", shop.offered(draft), 9);
        shop.mark(draft, 1, 5, 2);
        CHECKS.equal("nor one that is no more", shop.offered(draft), 8);
        for (int clause = 0; clause < 10; clause++) {
            Shops.agree(shop, draft, clause);
        }
        CHECKS.equal("agreed ones are offered too", shop.offered(draft), 8);
        shop.sign(draft, 0);
        CHECKS.equal("one signature leaves a draft", shop.offered(draft), 8);
        shop.sign(draft, 1);
        CHECKS.equal("of no draft", shop.offered(draft), 0);
    }

    private static void promise10WhyNot() {
        ClauseShop shop = Shops.stocked(1, 1, 1);
        int draft = shop.begin();
        CHECKS.equal("no item", shop.whyNot(draft), 2);
        shop.relate(0, 2 + 4, 8);
        shop.mark(draft, 1, 0, 1);
        CHECKS.equal("one side alone, ahead of what is needed", shop.whyNot(draft), 3);
        shop.mark(draft, 0, 0, 2);
        CHECKS.equal("in against out", shop.whyNot(draft), 3);
        shop.mark(draft, 0, 0, 1);
        CHECKS.equal("both needed ones are missing", shop.whyNot(draft), 4);
        Shops.agree(shop, draft, 1);
        CHECKS.equal("one needed one is missing", shop.whyNot(draft), 4);
        Shops.agree(shop, draft, 3);
        CHECKS.equal("missing comes ahead of forbidden", shop.whyNot(draft), 4);
        shop.mark(draft, 0, 2, 1);
        CHECKS.equal("not agreed comes ahead of forbidden", shop.whyNot(draft), 3);
        shop.mark(draft, 1, 2, 1);
        CHECKS.equal("forbidden", shop.whyNot(draft), 5);
        shop.relate(0, 2 + 4, 16);
        CHECKS.equal("nothing against it", shop.whyNot(draft), 0);
        shop.relate(7, 256, 1);
        CHECKS.equal("relations of clauses without items do not count", shop.whyNot(draft), 0);
        shop.sign(draft, 0);
        CHECKS.equal("one signature leaves it as it is", shop.whyNot(draft), 0);
        shop.sign(draft, 1);
        CHECKS.equal("no draft", shop.whyNot(draft), 1);
        shop.relate(0, 1022, 0);
        CHECKS.equal("no draft comes first", shop.whyNot(draft), 1);
    }

    private static void promise11Sign() {
        for (int side = 0; side < 2; side++) {
            ClauseShop shop = Shops.stocked(1, 1, 1);
            int draft = shop.begin();
            Shops.agree(shop, draft, 0);
            Shops.agree(shop, draft, 5);
            CHECKS.equal("the first signature", shop.sign(draft, side), 0);
            CHECKS.equal("makes no duty", shop.duties(), 0);
            int again = side;
            CHECKS.state("the same side again", () -> shop.sign(draft, again));
            CHECKS.equal("the second signature", shop.sign(draft, 1 - side), 2);
            CHECKS.equal("makes duties", shop.duties(), 2);
            CHECKS.state("a third signature", () -> shop.sign(draft, again));
            CHECKS.equal("makes no more", shop.duties(), 2);
        }
    }

    private static void promise11SignMakesDuties() {
        ClauseShop shop = new ClauseShop();
        for (int clause = 0; clause < 10; clause++) {
            shop.issue(clause, clause % 2, 10 * clause, 0, clause);
        }
        shop.pass(3);
        Shops.signed(shop, 7, 2);
        shop.pass(4);
        int all = shop.begin();
        for (int clause = 9; clause >= 0; clause--) {
            Shops.agree(shop, all, clause);
        }
        shop.sign(all, 1);
        shop.pass(1);
        shop.issue(6, 0, 1, 1, 1);
        CHECKS.equal("one duty for each item", shop.sign(all, 0), 10);
        CHECKS.equal("duties()", shop.duties(), 12);
        CHECKS.equal("the lower clause first", shop.day(0), 23);
        CHECKS.equal("the higher clause next", shop.day(1), 73);
        for (int clause = 0; clause < 10; clause++) {
            CHECKS.equal("from the day of the second signature", shop.day(2 + clause), 8 + 10 * clause);
            CHECKS.equal("open", shop.state(2 + clause), ClauseShop.OPEN);
        }
    }

    private static void promise11SignAndRelations() {
        ClauseShop shop = Shops.stocked(1, 1, 1);
        int draft = shop.begin();
        Shops.agree(shop, draft, 0);
        Shops.agree(shop, draft, 1);
        shop.sign(draft, 0);
        shop.relate(0, 4, 0);
        CHECKS.state("a relation that came meanwhile counts", () -> shop.sign(draft, 1));
        shop.relate(0, 0, 0);
        CHECKS.equal("but takes no signature", shop.sign(draft, 1), 2);
    }
}
