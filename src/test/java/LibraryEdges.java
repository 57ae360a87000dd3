import java.util.function.ObjIntConsumer;

/** Promises 1 to 4, sentence by sentence. */
final class LibraryEdges {
    private final Edges edges;

    LibraryEdges(Edges edges) {
        this.edges = edges;
    }

    void run() {
        promise1EmptyLibrary();
        promise1NoContractAndNoDuty();
        promise1FirstDay();
        promise1NoRelations();
        promise1AFullRun();
        promise2PutsIn();
        promise2NumberedFromOne();
        promise2Clause();
        promise2Obligor();
        promise2Days();
        promise2Cure();
        promise2Penalty();
        promise2WhatAVersionHas();
        promise2NumberOfTheVersion();
        promise2OneOutOfRange();
        promise2NineVersions();
        promise3Sets();
        promise3Clause();
        promise3Needs();
        promise3Forbids();
        promise3OutOfRange();
        promise4Latest();
        promise4Clause();
        promise4ClausesOfTheTerms();
        promise4NotInTheLibrary();
        promise4OutOfRange();
    }

    private void promise1EmptyLibrary() {
        edges.sentence(1, "Creates a shop with an empty library, on the day 0.");
        ClauseShop shop = new ClauseShop();
        int draft = shop.begin();
        for (int i = 0; i < 10; i++) {
            int clause = i;
            edges.equal("latest(" + i + ")", shop.latest(i), 0);
            edges.state("mark of clause " + i, LibraryEdges::oneDraft, s -> s.mark(draft, 0, clause, 1));
        }
        Shops.busy();
        edges.equal("other shops change nothing in it", shop.latest(0), 0);
    }

    private static ClauseShop oneDraft() {
        ClauseShop shop = new ClauseShop();
        shop.begin();
        return shop;
    }

    private void promise1NoContractAndNoDuty() {
        edges.sentence(1, "Creates a shop with an empty library, on the day 0.");
        edges.equal("duties()", new ClauseShop().duties(), 0);
        edges.index("whyNot(0)", ClauseShop::new, s -> s.whyNot(0));
        edges.index("state(0)", ClauseShop::new, s -> s.state(0));
    }

    private void promise1FirstDay() {
        edges.sentence(1, "Days are 0 to 9999; the present day is 0 at first and goes on by calls.");
        ClauseShop shop = Shops.twoDuties(0, 0, 1);
        edges.equal("the term of no days", shop.day(0), 0);
        edges.equal("it is not late on day 0", shop.perform(0), false);
        edges.equal("it is done on day 0", shop.day(0), 0);
        Shops.passTo(shop, 0, 9999);
        shop.perform(1);
        edges.equal("9999 days can pass", shop.day(1), 9999);
        edges.state("and no more", () -> Shops.onDay(9999), s -> s.pass(1));
    }

    private void promise1NoRelations() {
        edges.sentence(1, "A clause needs some clauses and forbids some, none at first.");
        ClauseShop shop = Shops.tenDrafts();
        for (int clause = 0; clause < 10; clause++) {
            Shops.agree(shop, clause, clause);
            edges.equal("clause " + clause + " alone", shop.whyNot(clause), 0);
        }
        for (int clause = 1; clause < 10; clause++) {
            Shops.agree(shop, 0, clause);
        }
        edges.equal("all clauses together", shop.whyNot(0), 0);
    }

    private void promise1AFullRun() {
        edges.sentence(1, "An object is used for at most 512 calls after it has been made; what later calls answer is "
                + "free.");
        ClauseShop shop = new ClauseShop();
        int calls = 0;
        for (int i = 0; i < 90; i++) {
            shop.issue(i / 9, 0, 0, 50, 1000);
            calls++;
        }
        for (int contract = 0; contract < 10; contract++) {
            Shops.signed(shop, 0, 1, 2, 3, 4, 5, 6, 7, 8, 9);
            calls += 23;
        }
        shop.pass(1);
        for (int duty = 0; duty < 100; duty++) {
            shop.notice(duty);
        }
        edges.equal("all are breached at once", shop.pass(51), 100);
        calls += 102;
        for (int duty = 0; duty < 89; duty++, calls++) {
            edges.equal("settle(" + duty + ")", shop.settle(duty), 1000);
        }
        edges.equal("one call is left", calls, 511);
        edges.equal("the 512th call", shop.owes(9, 0), 10000);
    }

    private void promise2PutsIn() {
        edges.sentence(2, "Puts a new version of a clause into the library.");
        ClauseShop shop = Shops.tenDrafts();
        Shops.agree(shop, 0, 6);
        shop.sign(0, 0);
        shop.issue(6, 1, 77, 2, 3);
        edges.equal("the latest one", shop.latest(6), 2);
        edges.equal("the version of a draft stays", shop.version(0, 6), 1);
        edges.equal("and its signature", shop.sign(0, 1), 1);
        edges.equal("which makes a duty of the old version", shop.day(0), 1);
        Shops.agree(shop, 1, 6);
        edges.equal("the version of a new item", shop.version(1, 6), 2);
    }

    private void promise2NumberedFromOne() {
        edges.sentence(2, "A clause is in the library with its latest version, numbered from 1, or not at all.");
        ClauseShop shop = new ClauseShop();
        edges.equal("the first one", shop.issue(5, 0, 0, 0, 0), 1);
        edges.equal("that clause", shop.latest(5), 1);
        edges.equal("the clause below", shop.latest(4), 0);
        edges.equal("the clause above", shop.latest(6), 0);
    }

    private void promise2Clause() {
        edges.sentence(2, "`clause`: 0 to 9");
        ClauseShop shop = new ClauseShop();
        for (int clause = 0; clause < 10; clause++) {
            edges.equal("issue of clause " + clause, shop.issue(clause, 0, 0, 0, 0), 1);
        }
        edges.arguments("issue", Edges.NO_CLAUSES, Shops::busy, (s, clause) -> s.issue(clause, 0, 0, 0, 0));
    }

    private void promise2Obligor() {
        edges.sentence(2, "`obligor`: 0 or 1");
        for (int obligor = 0; obligor < 2; obligor++) {
            ClauseShop shop = new ClauseShop();
            shop.issue(0, obligor, 0, 0, 7);
            breachOfFirst(shop);
            edges.equal("side " + obligor + " is bound", shop.owes(0, obligor), 7);
            edges.equal("the other one is not", shop.owes(0, 1 - obligor), 0);
        }
        edges.arguments("issue", Edges.NO_SIDES, Shops::busy, (s, obligor) -> s.issue(1, obligor, 0, 0, 0));
    }

    /** Of duty 0, of a version of clause 0 with no days and no cure. */
    private static void breachOfFirst(ClauseShop shop) {
        Shops.signed(shop, 0);
        shop.pass(1);
        shop.notice(0);
        shop.pass(1);
    }

    private void promise2Days() {
        edges.sentence(2, "`days`: 0 to 100");
        for (int days : new int[] {0, 1, 99, 100}) {
            ClauseShop shop = Shops.onDay(3);
            edges.equal("issue with days " + days, shop.issue(0, 0, days, 0, 0), 2);
            Shops.signed(shop, 0);
            edges.equal("the term after days " + days, shop.day(0), 3 + days);
        }
        edges.arguments("issue", notUpTo(100), Shops::busy, (s, days) -> s.issue(1, 0, days, 0, 0));
    }

    /** Numbers that are not within 0 and most. */
    private static int[] notUpTo(int most) {
        return new int[] {-1, most + 1, -most, 65536, Integer.MIN_VALUE, Integer.MAX_VALUE};
    }

    private void promise2Cure() {
        edges.sentence(2, "`cure`: 0 to 50");
        for (int cure : new int[] {0, 1, 49, 50}) {
            ClauseShop shop = Shops.onDay(3);
            edges.equal("issue with cure " + cure, shop.issue(0, 0, 0, cure, 0), 2);
            Shops.signed(shop, 0);
            shop.pass(1);
            edges.equal("the end of cure " + cure, shop.notice(0), 4 + cure);
        }
        edges.arguments("issue", notUpTo(50), Shops::busy, (s, cure) -> s.issue(1, 0, 0, cure, 0));
    }

    private void promise2Penalty() {
        edges.sentence(2, "`penalty`: 0 to 1000");
        for (int penalty : new int[] {0, 1, 999, 1000}) {
            ClauseShop shop = new ClauseShop();
            edges.equal("issue with penalty " + penalty, shop.issue(0, 0, 0, 0, penalty), 1);
            breachOfFirst(shop);
            edges.equal("what is owed of " + penalty, shop.owes(0, 0), penalty);
            edges.equal("the penalty " + penalty, shop.settle(0), penalty);
        }
        edges.arguments("issue", notUpTo(1000), Shops::busy, (s, penalty) -> s.issue(1, 0, 0, 0, penalty));
    }

    private void promise2WhatAVersionHas() {
        edges.sentence(2, "A version has an obligor, the side 0 or 1 of a contract that has the duty; days, 0 to 100; "
                + "a cure, 0 to 50 days; and a penalty, 0 to 1000.");
        ClauseShop shop = new ClauseShop();
        shop.issue(0, 0, 0, 0, 0);
        shop.issue(9, 1, 100, 50, 1000);
        Shops.signed(shop, 0, 9);
        edges.equal("the least of days", shop.day(0), 0);
        edges.equal("the most of days", shop.day(1), 100);
        shop.pass(100);
        shop.pass(1);
        edges.equal("the most of cure", shop.notice(1), 151);
        edges.equal("the least of cure", shop.notice(0), 101);
        shop.pass(1);
        edges.equal("the least of penalties", shop.owes(0, 0), 0);
        shop.settle(0);
        shop.pass(50);
        edges.equal("the most of penalties", shop.owes(0, 1), 1000);
    }

    private void promise2NumberOfTheVersion() {
        edges.sentence(2, "Returns the number of the version.");
        ClauseShop shop = new ClauseShop();
        for (int number = 1; number <= 9; number++) {
            for (int clause = 9; clause >= 0; clause--) {
                edges.equal("issue of clause " + clause, shop.issue(clause, 1, number, 0, 0), number);
            }
        }
    }

    private void promise2OneOutOfRange() {
        edges.sentence(2, "Throws `IllegalArgumentException` if one of the parameters is out of range");
        edges.argument("issue(10, 1, 100, 50, 1000)", Shops::busy, s -> s.issue(10, 1, 100, 50, 1000));
        edges.argument("issue(9, 2, 100, 50, 1000)", Shops::busy, s -> s.issue(9, 2, 100, 50, 1000));
        edges.argument("issue(9, 1, 101, 50, 1000)", Shops::busy, s -> s.issue(9, 1, 101, 50, 1000));
        edges.argument("issue(9, 1, 100, 51, 1000)", Shops::busy, s -> s.issue(9, 1, 100, 51, 1000));
        edges.argument("issue(9, 1, 100, 50, 1001)", Shops::busy, s -> s.issue(9, 1, 100, 50, 1001));
        edges.argument("issue(-1, 0, 0, 0, 0)", Shops::busy, s -> s.issue(-1, 0, 0, 0, 0));
        edges.argument("issue(0, -1, 0, 0, 0)", Shops::busy, s -> s.issue(0, -1, 0, 0, 0));
        edges.argument("issue(1, 0, -1, 0, 0)", Shops::busy, s -> s.issue(1, 0, -1, 0, 0));
        edges.argument("issue(1, 0, 0, -1, 0)", Shops::busy, s -> s.issue(1, 0, 0, -1, 0));
        edges.argument("issue(1, 0, 0, 0, -1)", Shops::busy, s -> s.issue(1, 0, 0, 0, -1));
        edges.argument("issue(-1, -1, -1, -1, -1)", Shops::busy, s -> s.issue(-1, -1, -1, -1, -1));
        edges.argument("issue(10, 2, 101, 51, 1001)", Shops::busy, s -> s.issue(10, 2, 101, 51, 1001));
    }

    private void promise2NineVersions() {
        edges.sentence(2, "Throws `IllegalStateException` if the clause has 9 versions");
        for (int i = 0; i < 10; i++) {
            int clause = i;
            ClauseShop shop = withVersions(clause, 8);
            edges.equal("a ninth version of clause " + i, shop.issue(clause, 0, 0, 0, 0), 9);
            edges.state("a tenth one", () -> withVersions(clause, 9), s -> s.issue(clause, 0, 0, 0, 0));
            edges.equal("another clause has room", shop.issue(9 - clause, 0, 0, 0, 0), 1);
        }
    }

    private static ClauseShop withVersions(int clause, int versions) {
        ClauseShop shop = new ClauseShop();
        for (int number = 1; number <= versions; number++) {
            shop.issue(clause, 1, number, number, number);
        }
        return shop;
    }

    private void promise3Sets() {
        edges.sentence(3, "Sets what a clause needs and forbids.");
        ClauseShop shop = Shops.tenDrafts();
        Shops.agree(shop, 0, 0);
        Shops.agree(shop, 0, 1);
        shop.relate(0, 4, 2);
        edges.equal("both sets", shop.whyNot(0), 4);
        shop.relate(0, 0, 2);
        edges.equal("the needed ones are set anew, to none", shop.whyNot(0), 5);
        shop.relate(0, 4, 0);
        edges.equal("the forbidden ones are set anew, to none", shop.whyNot(0), 4);
        shop.relate(0, 0, 0);
        edges.equal("both to none", shop.whyNot(0), 0);
        shop.relate(1, 4, 0);
        edges.equal("of the other clause", shop.whyNot(0), 4);
        shop.relate(2, 0, 3);
        edges.equal("each clause has its own", shop.whyNot(0), 4);
    }

    private void promise3Clause() {
        edges.sentence(3, "`clause`: 0 to 9");
        ClauseShop shop = Shops.tenDrafts();
        for (int clause = 0; clause < 10; clause++) {
            Shops.agree(shop, clause, clause);
            shop.relate(clause, 1 << (9 - clause), 0);
            edges.equal("clause " + clause + " alone", shop.whyNot(clause), 4);
        }
        edges.arguments("relate", Edges.NO_CLAUSES, Shops::busy, (s, clause) -> s.relate(clause, 0, 0));
        ClauseShop empty = new ClauseShop();
        empty.relate(9, 1, 0);
        edges.equal("no version is put in by it", empty.latest(9), 0);
        empty.issue(9, 0, 0, 0, 0);
        Shops.agree(empty, empty.begin(), 9);
        edges.equal("it holds for versions to come", empty.whyNot(0), 4);
    }

    private void promise3Needs() {
        edges.sentence(3, "`needs`: the set of clauses that it needs, as a sum of 2 to the power of each, 0 to 1023, "
                + "without itself");
        for (int clause = 0; clause < 10; clause++) {
            ClauseShop shop = Shops.tenDrafts();
            Shops.agree(shop, 0, clause);
            shop.relate(clause, 1023 - (1 << clause), 0);
            for (int other = 0; other < 10; other++) {
                boolean last = other == 9 || clause == 9 && other == 8;
                Shops.agree(shop, 0, other);
                edges.equal("clause " + clause + " with those up to " + other, shop.whyNot(0), last ? 0 : 4);
            }
            shop.relate(clause, 0, 0);
            edges.equal("clause " + clause + " that needs none", shop.whyNot(0), 0);
        }
        wrongSets("needs", (s, set) -> s.relate(4, set, 0));
    }

    private void wrongSets(String what, ObjIntConsumer<ClauseShop> refused) {
        edges.arguments(what, new int[] {-1, 1024, 1025, 2047, -1024, 1 << 16, Integer.MIN_VALUE, Integer.MAX_VALUE},
                Shops::busy, refused);
        edges.arguments(what + " of itself", new int[] {16, 17, 31, 1023}, Shops::busy, refused);
    }

    private void promise3Forbids() {
        edges.sentence(3, "`forbids`: the set of clauses that it forbids, 0 to 1023, without itself");
        for (int clause = 0; clause < 10; clause++) {
            ClauseShop shop = Shops.tenDrafts();
            Shops.agree(shop, 0, clause);
            shop.relate(clause, 0, 1023 - (1 << clause));
            edges.equal("clause " + clause + " alone", shop.whyNot(0), 0);
            for (int other = 0; other < 10; other++) {
                if (other != clause) {
                    Shops.agree(shop, 0, other);
                    edges.equal("clause " + clause + " with " + other, shop.whyNot(0), 5);
                    Shops.takeOut(shop, 0, other);
                    edges.equal("clause " + clause + " alone again", shop.whyNot(0), 0);
                }
            }
        }
        wrongSets("forbids", (s, set) -> s.relate(4, 0, set));
    }

    private void promise3OutOfRange() {
        edges.sentence(3, "Throws `IllegalArgumentException` if one of the parameters is out of range, or a set has "
                + "the clause itself");
        for (int i = 0; i < 10; i++) {
            int clause = i;
            int itself = 1 << i;
            edges.argument("needs itself: " + i, Shops::busy, s -> s.relate(clause, itself, 0));
            edges.argument("forbids itself: " + i, Shops::busy, s -> s.relate(clause, 0, itself));
            edges.argument("needs others and forbids itself: " + i, Shops::busy,
                    s -> s.relate(clause, 1023 - itself, itself));
            edges.argument("needs itself and forbids others: " + i, Shops::busy,
                    s -> s.relate(clause, itself, 1023 - itself));
            edges.argument("all clauses: " + i, Shops::busy, s -> s.relate(clause, 1023, 1023));
        }
        edges.argument("needs others and forbids too many", Shops::busy, s -> s.relate(2, 1, 1024));
        edges.argument("forbids others and needs too many", Shops::busy, s -> s.relate(2, 1024, 1));
        edges.argument("all of it", Shops::busy, s -> s.relate(10, 1024, 1024));
    }

    private void promise4Latest() {
        edges.sentence(4, "Returns the latest version of a clause.");
        ClauseShop shop = new ClauseShop();
        for (int number = 1; number <= 9; number++) {
            shop.issue(3, 0, 0, 0, 0);
            edges.equal("after version " + number, shop.latest(3), number);
        }
        edges.state("a tenth one", () -> withVersions(3, 9), s -> s.issue(3, 0, 0, 0, 0));
    }

    private void promise4Clause() {
        edges.sentence(4, "`clause`: 0 to 9");
        latestOfEach();
    }

    private void promise4ClausesOfTheTerms() {
        edges.sentence(4, "Clauses are 0 to 9.");
        latestOfEach();
    }

    private void latestOfEach() {
        ClauseShop shop = new ClauseShop();
        for (int clause = 0; clause < 10; clause++) {
            for (int number = 0; number < clause; number++) {
                shop.issue(clause, 0, 0, 0, 0);
            }
        }
        for (int clause = 0; clause < 10; clause++) {
            edges.equal("latest(" + clause + ")", shop.latest(clause), clause);
        }
        edges.argument("latest(-1)", Shops::busy, s -> s.latest(-1));
        edges.argument("latest(10)", Shops::busy, s -> s.latest(10));
    }

    private void promise4NotInTheLibrary() {
        edges.sentence(4, "Returns the number of the version, 0 if it is not in the library.");
        ClauseShop shop = new ClauseShop();
        for (int clause = 0; clause < 10; clause++) {
            shop.relate(clause, 0, 0);
            edges.equal("latest(" + clause + ") ahead of its first version", shop.latest(clause), 0);
            shop.issue(clause, 0, 0, 0, 0);
            edges.equal("latest(" + clause + ") after it", shop.latest(clause), 1);
        }
    }

    private void promise4OutOfRange() {
        edges.sentence(4, "Throws `IllegalArgumentException` if clause is out of range");
        edges.arguments("latest", Edges.NO_CLAUSES, Shops::busy, ClauseShop::latest);
        edges.arguments("latest", Edges.NO_CLAUSES, ClauseShop::new, ClauseShop::latest);
    }
}
