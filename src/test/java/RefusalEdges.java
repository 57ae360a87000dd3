import java.util.function.Consumer;
import java.util.function.Supplier;

/** What the terms say of exceptions, promise by promise: that they change nothing, and which one comes first. */
final class RefusalEdges {
    private final Edges edges;

    RefusalEdges(Edges edges) {
        this.edges = edges;
    }

    void run() {
        changeNothing();
        argumentBeforeState();
        indexBeforeArgument();
        indexBeforeState();
    }

    // ---- a call that is refused ahead of its last change, or behind a change that it would have made

    private void changeNothing() {
        nothing(2).argument("a version with one number wrong", Shops::busy, s -> s.issue(1, 0, 0, 0, 1001));
        edges.state("a tenth version", Shops::busy, s -> s.issue(0, 0, 0, 0, 0));
        nothing(3).argument("right needs, wrong forbids", Shops::busy, s -> s.relate(2, 1, 4));
        edges.argument("wrong needs, right forbids", Shops::busy, s -> s.relate(2, 4, 1));
        edges.argument("wrong needs of a clause that has some", Shops::busy, s -> s.relate(8, 1024, 0));
        nothing(4).argument("latest of clause 10", Shops::busy, s -> s.latest(10));
        nothing(5).state("an eleventh contract", Shops::tenDrafts, ClauseShop::begin);
        edges.state("an eleventh contract beside signed ones", Shops::full, ClauseShop::begin);
        nothing(6).argument("mark 3", Shops::busy, s -> s.mark(Shops.SIGNED_BY_0, 0, 5, 3));
        edges.state("out of no item in a signed draft", Shops::busy, s -> s.mark(Shops.SIGNED_BY_0, 0, 0, 2));
        edges.state("out in no draft", Shops::busy, s -> s.mark(Shops.SIGNED, 0, 0, 2));
        edges.state("in of what is not in the library", RefusalEdges::oneClause, s -> s.mark(0, 0, 1, 1));
        nothing(7).argument("renew by side 2", Shops::busy, s -> s.renew(Shops.SIGNED_BY_0, 2, 5));
        edges.state("renew of the latest, by who has not marked it", Shops::busy, s -> s.renew(Shops.DISPUTED, 0, 3));
        edges.state("renew of the latest in a signed draft", Shops::busy, s -> s.renew(Shops.SIGNED_BY_0, 1, 6));
        edges.state("renew in no draft", Shops::busy, s -> s.renew(Shops.SIGNED, 1, 0));
        nothing(8).argument("version of clause -1", Shops::busy, s -> s.version(Shops.DISPUTED, -1));
        nothing(9).index("offered of none", Shops::busy, s -> s.offered(Shops.BUSY_CONTRACTS));
        nothing(10).index("whyNot of none", Shops::busy, s -> s.whyNot(Shops.BUSY_CONTRACTS));
        nothing(11).state("a second signature of one side", Shops::busy, s -> s.sign(Shops.SIGNED_BY_1, 1));
        edges.state("a signature under what lacks a clause", Shops::busy, s -> s.sign(Shops.LACKING, 0));
        edges.state("a second signature that came too late", lackingAfterOne(), s -> s.sign(Shops.SIGNED_BY_0, 1));
        nothing(12).state("days up to and beyond the last one", dueOnTheLastDays(), s -> s.pass(3));
        edges.argument("a hundred and one days", Shops::busy, s -> s.pass(101));
        changeNothingOfDuties();
    }

    private Edges nothing(int promise) {
        edges.sentence(promise, Edges.CHANGES_NOTHING);
        return edges;
    }

    private static ClauseShop oneClause() {
        ClauseShop shop = new ClauseShop();
        shop.issue(0, 0, 0, 0, 0);
        Shops.agree(shop, shop.begin(), 0);
        shop.sign(0, 0);
        return shop;
    }

    private static Supplier<ClauseShop> lackingAfterOne() {
        return Shops.after(Shops::busy, s -> s.relate(6, 1, 0));
    }

    /** On day 9997, with one duty in breach, one that it holds up, and one whose cure ends. */
    private static Supplier<ClauseShop> dueOnTheLastDays() {
        return () -> {
            ClauseShop shop = Shops.onDay(9995);
            Shops.signed(shop, 0, 1, 2);
            shop.pass(1);
            shop.notice(0);
            shop.pass(1);
            shop.notice(2);
            return shop;
        };
    }

    private void changeNothingOfDuties() {
        nothing(14).index("state of none", Shops::busy, s -> s.state(Shops.BUSY_DUTIES));
        nothing(15).index("day of none", Shops::busy, s -> s.day(Shops.BUSY_DUTIES));
        nothing(16).index("isSuspended of none", Shops::busy, s -> s.isSuspended(Shops.BUSY_DUTIES));
        nothing(17).state("perform of a breached one", Shops::busy, s -> s.perform(Shops.BREACHED_DUTY));
        edges.state("perform of a done one", Shops::busy, s -> s.perform(Shops.DONE_DUTY));
        nothing(18).state("notice of a noticed one", Shops::busy, s -> s.notice(Shops.NOTICED_DUTY));
        edges.state("notice ahead of the term", () -> Shops.twoDuties(1, 0, 1), s -> s.notice(0));
        nothing(19).state("settle of a settled one", Shops::busy, s -> s.settle(Shops.SETTLED_DUTY));
        edges.state("settle of a noticed one", Shops::busy, s -> s.settle(Shops.NOTICED_DUTY));
        nothing(20).argument("owes of side 2", Shops::busy, s -> s.owes(Shops.SIGNED, 2));
    }

    // ---- which exception comes first

    private void argument(int promise, String call, Consumer<ClauseShop> refused) {
        edges.sentence(promise, Edges.FIRST_IS_THROWN);
        edges.argument(call, Shops::busy, refused);
    }

    private void index(int promise, String call, Consumer<ClauseShop> refused) {
        edges.sentence(promise, Edges.FIRST_IS_THROWN);
        edges.index(call, Shops::busy, refused);
    }

    private void argumentBeforeState() {
        argument(2, "a tenth version for side 2", s -> s.issue(0, 2, 0, 0, 0));
        argument(2, "a tenth version with a penalty of 1001", s -> s.issue(0, 0, 0, 0, 1001));
        argument(6, "mark of side 2 in no draft", s -> s.mark(Shops.SIGNED, 2, 0, 1));
        argument(6, "mark of clause 10 in no draft", s -> s.mark(Shops.SIGNED, 0, 10, 1));
        argument(6, "mark 0 in no draft", s -> s.mark(Shops.SIGNED, 0, 0, 0));
        argument(6, "out of no item, of side 2", s -> s.mark(Shops.EMPTY, 2, 0, 2));
        argument(6, "mark 3 of no item", s -> s.mark(Shops.EMPTY, 0, 0, 3));
        argument(7, "renew by side 2 in no draft", s -> s.renew(Shops.SIGNED, 2, 0));
        argument(7, "renew of clause 10 in no draft", s -> s.renew(Shops.SIGNED, 0, 10));
        argument(7, "renew of no item by side -1", s -> s.renew(Shops.EMPTY, -1, 0));
        argument(7, "renew of the latest by side 2", s -> s.renew(Shops.SIGNED_BY_0, 2, 6));
        argument(11, "side 2 signs no draft", s -> s.sign(Shops.SIGNED, 2));
        argument(11, "side -1 signs no item", s -> s.sign(Shops.EMPTY, -1));
        edges.sentence(12, Edges.FIRST_IS_THROWN);
        edges.argument("101 days on the last day", () -> Shops.onDay(9999), s -> s.pass(101));
        edges.argument("too many days on day 9900", () -> Shops.onDay(9900), s -> s.pass(Integer.MAX_VALUE));
    }

    private void indexBeforeArgument() {
        for (int contract : new int[] {-1, Shops.BUSY_CONTRACTS}) {
            index(6, "mark of side 2 in none", s -> s.mark(contract, 2, 0, 1));
            index(6, "mark of clause 10 in none", s -> s.mark(contract, 0, 10, 1));
            index(6, "mark 3 in none", s -> s.mark(contract, 0, 0, 3));
            index(7, "renew by side 2 in none", s -> s.renew(contract, 2, 0));
            index(7, "renew of clause 10 in none", s -> s.renew(contract, 0, 10));
            index(8, "version of clause 10 in none", s -> s.version(contract, 10));
            index(8, "version of clause -1 in none", s -> s.version(contract, -1));
            index(11, "side 2 signs none", s -> s.sign(contract, 2));
            index(20, "owes of side 2 in none", s -> s.owes(contract, 2));
            index(20, "owes of side -1 in none", s -> s.owes(contract, -1));
        }
    }

    private void indexBeforeState() {
        index(6, "out of no item in none", s -> s.mark(Shops.BUSY_CONTRACTS, 0, 0, 2));
        index(7, "renew of no item in none", s -> s.renew(Shops.BUSY_CONTRACTS, 0, 0));
        index(11, "side 0 signs none", s -> s.sign(Shops.BUSY_CONTRACTS, 0));
        index(17, "perform of none", s -> s.perform(Shops.BUSY_DUTIES));
        index(18, "notice of none", s -> s.notice(Shops.BUSY_DUTIES));
        index(19, "settle of none", s -> s.settle(Shops.BUSY_DUTIES));
    }
}
