import java.util.function.Consumer;
import java.util.function.ObjIntConsumer;
import java.util.function.Supplier;

/** Promises 5 to 11, sentence by sentence. */
final class DraftEdges {
    private static final String ITS_NUMBER = "`contract`: its number";
    private static final String NO_CONTRACT = "Throws `IndexOutOfBoundsException` if there is no such contract";
    private static final String SIGNATURES_ARE_GONE = "Whenever a mark or a version of a draft becomes another one, "
            + "or an item is no more, all its signatures are gone.";
    private static final String CAN_BE_SIGNED = "A draft can be signed if it has an item, all items are agreed, all "
            + "clauses that its clauses need have items in it, and no clause has an item that a clause of it forbids.";
    private static final int[] NO_CONTRACTS = {-1, Shops.BUSY_CONTRACTS, 9, 10, 256, 65536, Integer.MIN_VALUE,
        Integer.MAX_VALUE};

    private final Edges edges;

    DraftEdges(Edges edges) {
        this.edges = edges;
    }

    void run() {
        promise5();
        promise6();
        promise7();
        promise8();
        promise9();
        promise10();
        promise11();
    }

    /** The call refuses numbers that no contract has, in a shop with some, with none and with all of them. */
    private void refusesOtherNumbers(int promise, String call, ObjIntConsumer<ClauseShop> refused) {
        edges.sentence(promise, NO_CONTRACT);
        edges.indices(call, NO_CONTRACTS, Shops::busy, refused);
        edges.indices(call, new int[] {0, -1, 1}, ClauseShop::new, refused);
        edges.indices(call, new int[] {10, -1, 11}, Shops::full, refused);
    }

    private void refusesOtherSides(String call, ObjIntConsumer<ClauseShop> refused) {
        edges.arguments(call + " of side", Edges.NO_SIDES, Shops::busy, refused);
    }

    private void refusesOtherClauses(String call, ObjIntConsumer<ClauseShop> refused) {
        edges.arguments(call + " of clause", Edges.NO_CLAUSES, Shops::busy, refused);
    }

    private void refuses(String call, Consumer<ClauseShop> refused) {
        edges.state(call, Shops::busy, refused);
    }

    // ---- promise 5: begin

    private void promise5() {
        promise5Begins();
        promise5ItsNumber();
        promise5AtMostTen();
        promise5NoMoreThanTen();
    }

    private void promise5Begins() {
        edges.sentence(5, "Begins a draft.");
        ClauseShop shop = Shops.busy();
        int draft = shop.begin();
        edges.equal("it has no item", shop.whyNot(draft), 2);
        edges.equal("none is offered", shop.offered(draft), 0);
        edges.equal("it owes nothing", shop.owes(draft, 0) + shop.owes(draft, 1), 0);
        for (int clause = 0; clause < 10; clause++) {
            edges.equal("no item for clause " + clause, shop.version(draft, clause), 0);
        }
        Shops.agree(shop, draft, 0);
        edges.equal("no side has signed it", Shops.hasNoSignature(shop, draft, 1), true);
    }

    private void promise5ItsNumber() {
        edges.sentence(5, "Returns the number of the contract.");
        ClauseShop shop = Shops.stocked(0, 0, 0);
        for (int number = 0; number < 10; number++) {
            edges.equal("begin()", shop.begin(), number);
            edges.equal("its own item, alone", shop.mark(number, 0, number, 1), 0);
        }
        for (int number = 0; number < 10; number++) {
            edges.equal("the item of " + number, shop.version(number, number), 1);
            edges.equal("no item of another one", shop.version(number, 9 - number), 0);
        }
    }

    private void promise5AtMostTen() {
        edges.sentence(5, "Contracts are numbered from 0; there are at most 10.");
        ClauseShop shop = new ClauseShop();
        edges.equal("the first one", shop.begin(), 0);
        for (int number = 1; number < 9; number++) {
            shop.begin();
        }
        edges.equal("the last one", shop.begin(), 9);
        edges.state("one more", Shops::tenDrafts, ClauseShop::begin);
    }

    private void promise5NoMoreThanTen() {
        edges.sentence(5, "Throws `IllegalStateException` if there are 10");
        edges.state("begin() beside ten drafts", Shops::tenDrafts, ClauseShop::begin);
        edges.state("begin() beside ten signed ones", Shops::full, ClauseShop::begin);
        ClauseShop nine = Shops.busy();
        nine.begin();
        edges.equal("begin() beside nine", nine.begin(), 9);
        edges.state("begin() beside all sorts", DraftEdges::busyAndTwo, ClauseShop::begin);
    }

    private static ClauseShop busyAndTwo() {
        ClauseShop shop = Shops.busy();
        shop.begin();
        shop.begin();
        return shop;
    }

    // ---- promise 6: mark

    private void promise6() {
        promise6SetsTheMark();
        promise6MakesAnItem();
        promise6AtMostOneItem();
        promise6BothOutIsNoMore();
        promise6OutAgainstNoneIsNoMore();
        promise6Contract();
        promise6Side();
        promise6Clause();
        promise6MarkIsInOrOut();
        promise6MarkBefore();
        promise6OutOfRange();
        promise6NoDraft();
        promise6WithoutAnItem();
        promise6ChangeTakesSignatures();
        promise6SameMarkTakesNone();
        promise6NoItemTakesSignatures();
        refusesOtherNumbers(6, "mark", (s, contract) -> s.mark(contract, 0, 0, 1));
    }

    private void promise6SetsTheMark() {
        edges.sentence(6, "Sets the mark of a side on a clause.");
        for (int side = 0; side < 2; side++) {
            ClauseShop shop = Shops.tenDrafts();
            Shops.agree(shop, 0, 3);
            shop.mark(0, side, 3, 2);
            edges.equal("out", shop.mark(0, side, 3, 2), 2);
            edges.equal("it is not agreed", shop.whyNot(0), 3);
            shop.mark(0, side, 3, 1);
            edges.equal("in", shop.mark(0, side, 3, 1), 1);
            edges.equal("it is agreed", shop.whyNot(0), 0);
            edges.equal("the mark of the other side stayed", shop.mark(0, 1 - side, 3, 1), 1);
        }
    }

    private void promise6MakesAnItem() {
        edges.sentence(6, "If the draft has no item for the clause, a mark of 1 makes one, of the latest version, "
                + "with the mark 0 of the other side.");
        for (int side = 0; side < 2; side++) {
            ClauseShop shop = Shops.tenDrafts();
            for (int number = 2; number <= 9; number++) {
                shop.issue(7, 0, 0, 0, 0);
            }
            shop.mark(0, side, 7, 1);
            shop.mark(0, side, 8, 1);
            edges.equal("the ninth version", shop.version(0, 7), 9);
            edges.equal("the first version", shop.version(0, 8), 1);
            edges.equal("not agreed", shop.whyNot(0), 3);
            edges.equal("the mark of the other side", shop.mark(0, 1 - side, 7, 1), 0);
            edges.equal("its own mark", shop.mark(0, side, 7, 1), 1);
        }
        ClauseShop again = Shops.tenDrafts();
        Shops.agree(again, 0, 7);
        Shops.takeOut(again, 0, 7);
        again.issue(7, 0, 0, 0, 0);
        again.mark(0, 0, 7, 1);
        edges.equal("an item that is made again has the latest version", again.version(0, 7), 2);
        edges.equal("and no mark of the one before", again.mark(0, 1, 7, 1), 0);
    }

    private void promise6AtMostOneItem() {
        edges.sentence(6, "A draft has at most one item for each clause: a version of it, and a mark of each side: "
                + "0 none, 1 in, 2 out.");
        ClauseShop shop = Shops.tenDrafts();
        edges.equal("none", shop.mark(0, 0, 4, 1), 0);
        shop.issue(4, 0, 0, 0, 0);
        edges.equal("in", shop.mark(0, 0, 4, 1), 1);
        edges.equal("the first item stays, of its version", shop.version(0, 4), 1);
        edges.equal("of the other side none", shop.mark(0, 1, 4, 2), 0);
        edges.equal("out", shop.mark(0, 1, 4, 1), 2);
        shop.sign(0, 0);
        edges.equal("one item, one duty", shop.sign(0, 1), 1);
    }

    private void promise6BothOutIsNoMore() {
        for (int side = 0; side < 2; side++) {
            itemIsNoMoreSentence();
            ClauseShop shop = Shops.tenDrafts();
            Shops.agree(shop, 0, 2);
            shop.mark(0, side, 2, 2);
            edges.equal("out against in stays", shop.version(0, 2), 1);
            shop.mark(0, 1 - side, 2, 2);
            edges.equal("out against out", shop.version(0, 2), 0);
            edges.equal("the draft is empty", shop.whyNot(0), 2);

            shop.mark(0, side, 2, 1);
            shop.mark(0, 1 - side, 2, 2);
            edges.equal("in against out, which was none, stays", shop.version(0, 2), 1);
            shop.mark(0, 1 - side, 2, 2);
            edges.equal("out again stays", shop.version(0, 2), 1);
            shop.mark(0, side, 2, 2);
            edges.equal("out against out, which was none", shop.version(0, 2), 0);
        }
    }

    private void itemIsNoMoreSentence() {
        edges.sentence(6, "An item for which both marks are 2, or one is 2 and the other one is 0, is no more.");
    }

    private void promise6OutAgainstNoneIsNoMore() {
        for (int side = 0; side < 2; side++) {
            itemIsNoMoreSentence();
            ClauseShop shop = Shops.tenDrafts();
            shop.mark(0, side, 2, 1);
            edges.equal("in against none stays", shop.version(0, 2), 1);
            edges.equal("out against none", shop.mark(0, side, 2, 2), 1);
            edges.equal("it is no more", shop.version(0, 2), 0);

            Shops.agree(shop, 0, 2);
            shop.mark(0, 1 - side, 2, 2);
            shop.issue(2, 0, 0, 0, 0);
            shop.renew(0, side, 2);
            edges.equal("out against none, after a renewal", shop.mark(0, side, 2, 2), 1);
            edges.equal("it is no more either", shop.version(0, 2), 0);
        }
    }

    private void promise6Contract() {
        edges.sentence(6, ITS_NUMBER);
        ClauseShop shop = Shops.tenDrafts();
        edges.equal("the first contract", shop.mark(0, 0, 0, 1), 0);
        edges.equal("the last contract", shop.mark(9, 0, 0, 1), 0);
        edges.equal("the last contract again", shop.mark(9, 0, 0, 2), 1);
        edges.equal("the item of the first one stays", shop.version(0, 0), 1);
    }

    private void promise6Side() {
        edges.sentence(6, "`side`: 0 or 1");
        ClauseShop shop = Shops.tenDrafts();
        edges.equal("side 0", shop.mark(0, 0, 0, 1), 0);
        edges.equal("side 1", shop.mark(0, 1, 0, 1), 0);
        refusesOtherSides("mark", (s, side) -> s.mark(Shops.DISPUTED, side, 0, 1));
    }

    private void promise6Clause() {
        edges.sentence(6, "`clause`: 0 to 9");
        ClauseShop shop = Shops.tenDrafts();
        for (int clause = 0; clause < 10; clause++) {
            edges.equal("clause " + clause, shop.mark(0, clause % 2, clause, 1), 0);
            edges.equal("its item", shop.version(0, clause), 1);
        }
        refusesOtherClauses("mark", (s, clause) -> s.mark(Shops.DISPUTED, 0, clause, 1));
    }

    private void promise6MarkIsInOrOut() {
        edges.sentence(6, "`mark`: 1 or 2");
        ClauseShop shop = Shops.tenDrafts();
        Shops.agree(shop, 0, 0);
        edges.equal("mark 2", shop.mark(0, 0, 0, 2), 1);
        edges.equal("mark 1", shop.mark(0, 0, 0, 1), 2);
        int[] wrong = {0, 3, -1, 257, 65537, Integer.MIN_VALUE, Integer.MAX_VALUE};
        edges.arguments("mark of an item", wrong, Shops::busy, (s, mark) -> s.mark(Shops.DISPUTED, 0, 0, mark));
        edges.arguments("mark of no item", wrong, Shops::busy, (s, mark) -> s.mark(Shops.EMPTY, 0, 0, mark));
    }

    private void promise6MarkBefore() {
        edges.sentence(6, "Returns the mark before, 0 if there was no item.");
        ClauseShop shop = Shops.tenDrafts();
        for (int side = 0; side < 2; side++) {
            edges.equal("no item", shop.mark(0, side, 5, 1), 0);
            edges.equal("in before in", shop.mark(0, side, 5, 1), 1);
            edges.equal("none before out", shop.mark(0, 1 - side, 5, 2), 0);
            edges.equal("out before out", shop.mark(0, 1 - side, 5, 2), 2);
            edges.equal("out before in", shop.mark(0, 1 - side, 5, 1), 2);
            edges.equal("in before out", shop.mark(0, side, 5, 2), 1);
            edges.equal("in before the end of the item", shop.mark(0, 1 - side, 5, 2), 1);
            edges.equal("no item once more", shop.mark(0, 1 - side, 5, 1), 0);
            edges.equal("none before in", shop.mark(0, side, 5, 1), 0);
            Shops.takeOut(shop, 0, 5);
        }
    }

    private void promise6OutOfRange() {
        edges.sentence(6, "Throws `IllegalArgumentException` if side, clause or mark is out of range");
        for (int contract : new int[] {Shops.SIGNED, Shops.SIGNED_BY_0, Shops.DISPUTED, Shops.EMPTY}) {
            edges.argument("the side alone", Shops::busy, s -> s.mark(contract, 2, 9, 2));
            edges.argument("the clause alone", Shops::busy, s -> s.mark(contract, 1, 10, 2));
            edges.argument("the mark alone", Shops::busy, s -> s.mark(contract, 1, 9, 3));
            edges.argument("no mark", Shops::busy, s -> s.mark(contract, 0, 0, 0));
            edges.argument("all of them", Shops::busy, s -> s.mark(contract, -1, -1, -1));
        }
    }

    private void promise6NoDraft() {
        noDraftOrNoItemSentence();
        refuses("in, of an item that is in", s -> s.mark(Shops.SIGNED, 0, 0, 1));
        refuses("out", s -> s.mark(Shops.SIGNED, 1, 0, 2));
        refuses("in, of a clause that is not in", s -> s.mark(Shops.SIGNED, 0, 9, 1));
        ClauseShop one = Shops.busy();
        edges.equal("one signature leaves a draft", one.mark(Shops.SIGNED_BY_0, 1, 5, 2), 1);
        edges.equal("of either side", one.mark(Shops.SIGNED_BY_1, 0, 7, 2), 1);
    }

    private void noDraftOrNoItemSentence() {
        edges.sentence(6, "Throws `IllegalStateException` if it is no draft; or, without an item for the clause, "
                + "if mark is 2 or the clause is not in the library");
    }

    private void promise6WithoutAnItem() {
        noDraftOrNoItemSentence();
        for (int side = 0; side < 2; side++) {
            int marker = side;
            refuses("out of no item", s -> s.mark(Shops.EMPTY, marker, 0, 2));
            refuses("out of no item beside others", s -> s.mark(Shops.SIGNED_BY_0, marker, 4, 2));
            edges.state("out twice", Shops.after(Shops::tenDrafts, s -> {
                s.mark(0, marker, 0, 1);
                s.mark(0, marker, 0, 2);
            }), s -> s.mark(0, marker, 0, 2));
            edges.state("in without a version", DraftEdges::lastClauseAlone, s -> s.mark(0, marker, 8, 1));
            edges.state("out without a version", DraftEdges::lastClauseAlone, s -> s.mark(0, marker, 0, 2));
            edges.equal("the one with a version", lastClauseAlone().mark(0, marker, 9, 1), 0);
        }
    }

    private static ClauseShop lastClauseAlone() {
        ClauseShop shop = new ClauseShop();
        shop.issue(9, 0, 0, 0, 0);
        shop.begin();
        return shop;
    }

    private void promise6ChangeTakesSignatures() {
        edges.sentence(6, SIGNATURES_ARE_GONE);
        for (int i = 0; i < 4; i++) {
            int signer = i % 2;
            int marker = i / 2;
            ClauseShop shop = agreedAndSigned(signer);
            shop.mark(0, marker, 9, 2);
            shop.mark(0, marker, 9, 1);
            edges.equal("after out and in again", Shops.hasNoSignature(shop, 0, signer), true);
            ClauseShop more = agreedAndSigned(signer);
            more.mark(0, marker, 5, 1);
            more.mark(0, 1 - marker, 5, 1);
            edges.equal("after one more item", Shops.hasNoSignature(more, 0, signer), true);
        }
    }

    /** Contract 0 has items for the first and the last clause, and one signature. */
    private static ClauseShop agreedAndSigned(int signer) {
        ClauseShop shop = Shops.tenDrafts();
        Shops.agree(shop, 0, 0);
        Shops.agree(shop, 0, 9);
        shop.sign(0, signer);
        return shop;
    }

    private void promise6SameMarkTakesNone() {
        edges.sentence(6, SIGNATURES_ARE_GONE);
        for (int i = 0; i < 2; i++) {
            int signer = i;
            ClauseShop shop = agreedAndSigned(signer);
            Shops.agree(shop, 0, 0);
            Shops.agree(shop, 0, 9);
            shop.mark(1, 0, 0, 1);
            shop.issue(0, 1, 1, 1, 1);
            edges.equal("marks that stay, and another draft's", shop.sign(0, 1 - signer), 2);
            edges.state("so the signer can't sign again",
                    Shops.after(() -> agreedAndSigned(signer), s -> Shops.agree(s, 0, 0)), s -> s.sign(0, signer));
        }
    }

    private void promise6NoItemTakesSignatures() {
        edges.sentence(6, SIGNATURES_ARE_GONE);
        for (int i = 0; i < 4; i++) {
            int signer = i % 2;
            int marker = i / 2;
            ClauseShop shop = agreedAndSigned(signer);
            shop.mark(0, marker, 9, 2);
            shop.mark(0, 1 - marker, 9, 2);
            edges.equal("after an item is no more", Shops.hasNoSignature(shop, 0, signer), true);
            ClauseShop brief = agreedAndSigned(signer);
            brief.mark(0, marker, 5, 1);
            brief.mark(0, marker, 5, 2);
            edges.equal("after an item came and went", Shops.hasNoSignature(brief, 0, signer), true);
        }
    }

    // ---- promise 7: renew

    private void promise7() {
        promise7Renews();
        promise7Contract();
        promise7Side();
        promise7Clause();
        promise7VersionBefore();
        promise7OutOfRange();
        promise7CannotRenew();
        promise7TakesSignatures();
        refusesOtherNumbers(7, "renew", (s, contract) -> s.renew(contract, 0, 0));
    }

    /** Ten drafts, each with an agreed item for each clause of the first version, and a second version of each. */
    private static ClauseShop offeredOnes() {
        ClauseShop shop = Shops.stocked(1, 2, 3);
        for (int contract = 0; contract < 10; contract++) {
            shop.begin();
            Shops.agree(shop, contract, contract);
        }
        for (int clause = 0; clause < 10; clause++) {
            shop.issue(clause, 0, 50, 40, 30);
        }
        return shop;
    }

    private void promise7Renews() {
        edges.sentence(7, "Brings an item to the latest version of its clause; the mark of the side is 1 then, that of "
                + "the other side 0.");
        for (int side = 0; side < 2; side++) {
            ClauseShop shop = offeredOnes();
            for (int number = 3; number <= 9; number++) {
                shop.issue(6, 0, number, number, number);
            }
            shop.renew(6, side, 6);
            edges.equal("over many versions at once", shop.version(6, 6), 9);
            edges.equal("the mark of the side", shop.mark(6, side, 6, 1), 1);
            edges.equal("not agreed", shop.whyNot(6), 3);
            edges.equal("the mark of the other side", shop.mark(6, 1 - side, 6, 1), 0);
            shop.mark(5, side, 5, 2);
            shop.renew(5, side, 5);
            edges.equal("a side that was against it is for it", shop.mark(5, side, 5, 1), 1);
            shop.mark(4, 1 - side, 4, 2);
            shop.renew(4, side, 4);
            edges.equal("the other side was against it", shop.mark(4, 1 - side, 4, 1), 0);
            edges.equal("other drafts keep theirs", shop.version(3, 3), 1);
        }
    }

    private void promise7Contract() {
        edges.sentence(7, ITS_NUMBER);
        ClauseShop shop = offeredOnes();
        edges.equal("the first contract", shop.renew(0, 0, 0), 1);
        edges.equal("the last contract", shop.renew(9, 0, 9), 1);
        edges.equal("the one that is not renewed", shop.version(1, 1), 1);
    }

    private void promise7Side() {
        edges.sentence(7, "`side`: 0 or 1");
        edges.equal("side 0", offeredOnes().renew(0, 0, 0), 1);
        edges.equal("side 1", offeredOnes().renew(0, 1, 0), 1);
        refusesOtherSides("renew", (s, side) -> s.renew(Shops.SIGNED_BY_0, side, 5));
    }

    private void promise7Clause() {
        edges.sentence(7, "`clause`: 0 to 9");
        ClauseShop shop = offeredOnes();
        for (int clause = 0; clause < 10; clause++) {
            edges.equal("clause " + clause, shop.renew(clause, 0, clause), 1);
            edges.equal("it has the latest one", shop.version(clause, clause), 2);
        }
        refusesOtherClauses("renew", (s, clause) -> s.renew(Shops.SIGNED_BY_0, 0, clause));
    }

    private void promise7VersionBefore() {
        edges.sentence(7, "Returns the version before.");
        ClauseShop shop = Shops.tenDrafts();
        shop.mark(0, 0, 0, 1);
        shop.mark(1, 0, 0, 1);
        for (int number = 2; number <= 9; number++) {
            shop.issue(0, 0, 0, 0, 0);
            edges.equal("one version on", shop.renew(0, number % 2, 0), number - 1);
        }
        edges.equal("eight versions on", shop.renew(1, 0, 0), 1);
    }

    private void promise7OutOfRange() {
        edges.sentence(7, "Throws `IllegalArgumentException` if side or clause is out of range");
        for (int contract : new int[] {Shops.SIGNED, Shops.SIGNED_BY_0, Shops.DISPUTED, Shops.EMPTY}) {
            edges.argument("the side alone", Shops::busy, s -> s.renew(contract, 2, 5));
            edges.argument("the clause alone", Shops::busy, s -> s.renew(contract, 0, 10));
            edges.argument("both", Shops::busy, s -> s.renew(contract, -1, -1));
        }
    }

    private void promise7CannotRenew() {
        edges.sentence(7, "Throws `IllegalStateException` if it is no draft, has no item for the clause, or that has "
                + "the latest version");
        refuses("renew in no draft", s -> s.renew(Shops.SIGNED, 0, 0));
        refuses("renew in no draft, of no item", s -> s.renew(Shops.SIGNED, 0, 9));
        refuses("renew of no item", s -> s.renew(Shops.SIGNED_BY_0, 0, 0));
        refuses("renew in an empty draft", s -> s.renew(Shops.EMPTY, 1, 5));
        refuses("renew of the latest version", s -> s.renew(Shops.SIGNED_BY_0, 0, 6));
        refuses("renew of the latest version, by who is against it", s -> s.renew(Shops.DISPUTED, 0, 1));
        edges.state("renew twice", Shops.after(DraftEdges::offeredOnes, s -> s.renew(0, 0, 0)), s -> s.renew(0, 1, 0));
        edges.state("renew of an item that is no more",
                Shops.after(DraftEdges::offeredOnes, s -> Shops.takeOut(s, 0, 0)), s -> s.renew(0, 0, 0));
        edges.state("renew of what is not in the library", DraftEdges::lastClauseAlone, s -> s.renew(0, 0, 8));
        edges.equal("with one signature it is a draft", Shops.busy().renew(Shops.SIGNED_BY_0, 1, 5), 1);
    }

    private void promise7TakesSignatures() {
        edges.sentence(7, SIGNATURES_ARE_GONE);
        for (int i = 0; i < 4; i++) {
            int signer = i % 2;
            int renewer = i / 2;
            ClauseShop shop = offeredOnes();
            shop.sign(3, signer);
            shop.renew(3, renewer, 3);
            shop.mark(3, 1 - renewer, 3, 1);
            edges.equal("after a renewal", Shops.hasNoSignature(shop, 3, signer), true);
            ClauseShop refused = agreedAndSigned(signer);
            edges.state("a renewal that is refused", () -> agreedAndSigned(signer), s -> s.renew(0, renewer, 0));
            edges.equal("takes none", refused.sign(0, 1 - signer), 2);
        }
    }

    // ---- promise 8: version

    private void promise8() {
        promise8Version();
        promise8Contract();
        promise8Clause();
        promise8NoItem();
        edges.sentence(8, "Throws `IllegalArgumentException` if clause is out of range");
        refusesOtherClauses("version in a draft", (s, clause) -> s.version(Shops.DISPUTED, clause));
        refusesOtherClauses("version in no draft", (s, clause) -> s.version(Shops.SIGNED, clause));
        refusesOtherNumbers(8, "version", (s, contract) -> s.version(contract, 0));
    }

    private void promise8Version() {
        edges.sentence(8, "Returns the version of a clause in a contract.");
        ClauseShop shop = Shops.tenDrafts();
        for (int number = 1; number <= 9; number++) {
            shop.mark(number, 0, 2, 1);
            edges.equal("of a draft", shop.version(number, 2), number);
            if (number < 9) {
                shop.issue(2, 0, 0, 0, 0);
            }
        }
        edges.equal("the first one stays", shop.version(1, 2), 1);
        shop.mark(9, 1, 2, 1);
        shop.sign(9, 0);
        shop.sign(9, 1);
        edges.equal("of a signed contract", shop.version(9, 2), 9);
    }

    private void promise8Contract() {
        edges.sentence(8, ITS_NUMBER);
        ClauseShop shop = Shops.tenDrafts();
        shop.mark(9, 0, 0, 1);
        edges.equal("the first contract", shop.version(0, 0), 0);
        edges.equal("the last contract", shop.version(9, 0), 1);
    }

    private void promise8Clause() {
        edges.sentence(8, "`clause`: 0 to 9");
        ClauseShop shop = Shops.tenDrafts();
        for (int clause = 0; clause < 10; clause++) {
            shop.mark(0, 0, clause, 1);
            edges.equal("clause " + clause, shop.version(0, clause), 1);
        }
        refusesOtherClauses("version", (s, clause) -> s.version(Shops.EMPTY, clause));
    }

    private void promise8NoItem() {
        edges.sentence(8, "Returns the version of its item, 0 if there is none.");
        ClauseShop shop = Shops.busy();
        for (int clause = 0; clause < 10; clause++) {
            edges.equal("in an empty draft", shop.version(Shops.EMPTY, clause), 0);
        }
        edges.equal("a clause of a signed contract", shop.version(Shops.SIGNED, 4), 1);
        edges.equal("none of a signed contract", shop.version(Shops.SIGNED, 5), 0);
        Shops.takeOut(shop, Shops.SIGNED_BY_1, 7);
        edges.equal("one that is no more", shop.version(Shops.SIGNED_BY_1, 7), 0);
    }

    // ---- promise 9: offered

    private void promise9() {
        promise9Counts();
        promise9Contract();
        promise9NoDraft();
        refusesOtherNumbers(9, "offered", (s, contract) -> s.offered(contract));
    }

    private void promise9Counts() {
        edges.sentence(9, "Counts the items of a draft for which the library has a later version.");
        ClauseShop shop = Shops.tenDrafts();
        shop.issue(0, 0, 0, 0, 0);
        edges.equal("no items", shop.offered(0), 0);
        for (int clause = 0; clause < 10; clause++) {
            shop.mark(0, clause % 2, clause, 1);
            edges.equal("none for the latest of clause " + clause, shop.offered(0), 0);
        }
        for (int clause = 0; clause < 10; clause++) {
            shop.issue(clause, 0, 0, 0, 0);
            edges.equal("clause " + clause + " too", shop.offered(0), clause + 1);
            shop.issue(clause, 0, 0, 0, 0);
            edges.equal("two later versions are one item", shop.offered(0), clause + 1);
        }
        for (int clause = 0; clause < 10; clause++) {
            shop.renew(0, 0, clause);
            edges.equal("no longer when renewed", shop.offered(0), 9 - clause);
        }
    }

    private void promise9Contract() {
        edges.sentence(9, ITS_NUMBER);
        ClauseShop shop = offeredOnes();
        shop.renew(0, 0, 0);
        edges.equal("the first contract", shop.offered(0), 0);
        edges.equal("the last contract", shop.offered(9), 1);
    }

    private void promise9NoDraft() {
        edges.sentence(9, "Returns the number of items, 0 if it is no draft.");
        ClauseShop shop = offeredOnes();
        for (int clause = 0; clause < 9; clause++) {
            Shops.agree(shop, 9, clause);
        }
        edges.equal("of ten items one", shop.offered(9), 1);
        shop.issue(0, 0, 0, 0, 0);
        edges.equal("of ten items two", shop.offered(9), 2);
        shop.sign(9, 1);
        edges.equal("with one signature", shop.offered(9), 2);
        shop.sign(9, 0);
        edges.equal("with both", shop.offered(9), 0);
        shop.issue(1, 0, 0, 0, 0);
        edges.equal("for good", shop.offered(9), 0);
    }

    // ---- promise 10: whyNot

    private void promise10() {
        promise10FirstThatApplies();
        promise10Contract();
        promise10Reasons();
        promise10BothMarksIn();
        promise10CanBeSigned();
        promise10NoDraft();
        refusesOtherNumbers(10, "whyNot", (s, contract) -> s.whyNot(contract));
    }

    private void promise10FirstThatApplies() {
        edges.sentence(10, "Tells why a draft cannot be signed: the first of these that applies.");
        ClauseShop shop = Shops.tenDrafts();
        shop.relate(0, 2, 4);
        shop.mark(0, 0, 0, 1);
        shop.mark(0, 1, 2, 1);
        edges.equal("not agreed, needed and forbidden", shop.whyNot(0), 3);
        shop.mark(0, 1, 0, 1);
        edges.equal("one of two not agreed, needed and forbidden", shop.whyNot(0), 3);
        shop.mark(0, 0, 2, 1);
        edges.equal("needed and forbidden", shop.whyNot(0), 4);
        shop.mark(0, 0, 1, 1);
        edges.equal("the needed one not agreed, and forbidden", shop.whyNot(0), 3);
        shop.mark(0, 1, 1, 1);
        edges.equal("forbidden", shop.whyNot(0), 5);
        Shops.takeOut(shop, 0, 2);
        edges.equal("none of them", shop.whyNot(0), 0);
        shop.relate(0, 4, 2);
        edges.equal("needed and forbidden the other way round", shop.whyNot(0), 4);
    }

    private void promise10Contract() {
        edges.sentence(10, ITS_NUMBER);
        ClauseShop shop = Shops.tenDrafts();
        Shops.agree(shop, 9, 0);
        edges.equal("the first contract", shop.whyNot(0), 2);
        edges.equal("the last contract", shop.whyNot(9), 0);
    }

    private void promise10Reasons() {
        edges.sentence(10, "Returns 0 if it can be, 1 if it is no draft, 2 if it has no item, 3 if an item is not "
                + "agreed, 4 if a needed clause has no item, 5 if a forbidden one has.");
        ClauseShop shop = Shops.busy();
        edges.equal("signed by side 0", shop.whyNot(Shops.SIGNED_BY_0), 0);
        edges.equal("signed by side 1", shop.whyNot(Shops.SIGNED_BY_1), 0);
        edges.equal("signed by both", shop.whyNot(Shops.SIGNED), 1);
        edges.equal("empty", shop.whyNot(Shops.EMPTY), 2);
        edges.equal("disputed", shop.whyNot(Shops.DISPUTED), 3);
        edges.equal("lacking", shop.whyNot(Shops.LACKING), 4);
        edges.equal("with a forbidden one", shop.whyNot(Shops.FORBIDDEN), 5);
        Shops.takeOut(shop, Shops.SIGNED_BY_1, 7);
        edges.equal("emptied again", shop.whyNot(Shops.SIGNED_BY_1), 2);
    }

    private void promise10BothMarksIn() {
        edges.sentence(10, "An item is agreed if both marks are 1.");
        ClauseShop shop = Shops.tenDrafts();
        for (int clause = 0; clause < 10; clause++) {
            shop.mark(0, 0, clause, 1);
            edges.equal("1 and 0", shop.whyNot(0), 3);
            shop.mark(0, 1, clause, 2);
            edges.equal("1 and 2", shop.whyNot(0), 3);
            shop.mark(0, 1, clause, 1);
            edges.equal("1 and 1", shop.whyNot(0), 0);
            shop.mark(0, 0, clause, 2);
            edges.equal("2 and 1", shop.whyNot(0), 3);
            shop.mark(0, 1, clause, 2);
            shop.mark(0, 1, clause, 1);
            edges.equal("0 and 1", shop.whyNot(0), 3);
            shop.mark(0, 0, clause, 1);
            edges.equal("all are agreed", shop.whyNot(0), 0);
        }
    }

    private void promise10CanBeSigned() {
        edges.sentence(10, CAN_BE_SIGNED);
        for (int pair = 0; pair < 100; pair++) {
            if (pair / 10 != pair % 10) {
                relationOfTwo(pair / 10, pair % 10);
            }
        }
        ClauseShop shop = Shops.tenDrafts();
        Shops.agree(shop, 0, 0);
        shop.relate(1, 4, 1);
        edges.equal("relations of a clause without an item", shop.whyNot(0), 0);
        shop.relate(0, 2, 0);
        Shops.agree(shop, 0, 1);
        edges.equal("what is needed needs one, too", shop.whyNot(0), 4);
        Shops.agree(shop, 0, 2);
        edges.equal("and forbids the first one", shop.whyNot(0), 5);
    }

    private void relationOfTwo(int clause, int other) {
        ClauseShop shop = Shops.tenDrafts();
        String pair = clause + " and " + other;
        Shops.agree(shop, 0, clause);
        shop.relate(clause, 1 << other, 0);
        edges.equal("needed, not there: " + pair, shop.whyNot(0), 4);
        shop.relate(clause, 0, 1 << other);
        edges.equal("forbidden, not there: " + pair, shop.whyNot(0), 0);
        Shops.agree(shop, 0, other);
        edges.equal("forbidden, there: " + pair, shop.whyNot(0), 5);
        shop.relate(clause, 1 << other, 0);
        edges.equal("needed, there: " + pair, shop.whyNot(0), 0);
        shop.relate(clause, 1 << other, 1 << other);
        edges.equal("needed and forbidden, there: " + pair, shop.whyNot(0), 5);
    }

    private void promise10NoDraft() {
        edges.sentence(10, "A contract is a draft until it is signed by both sides, 0 and 1.");
        ClauseShop shop = Shops.busy();
        edges.equal("signed by side 0", shop.whyNot(Shops.SIGNED_BY_0), 0);
        shop.sign(Shops.SIGNED_BY_0, 1);
        edges.equal("then by side 1", shop.whyNot(Shops.SIGNED_BY_0), 1);
        shop.sign(Shops.SIGNED_BY_1, 0);
        edges.equal("the other way round", shop.whyNot(Shops.SIGNED_BY_1), 1);
        shop.relate(7, 1, 0);
        edges.equal("relations that change do not matter then", shop.whyNot(Shops.SIGNED_BY_1), 1);
    }

    // ---- promise 11: sign

    private void promise11() {
        promise11SignsForASide();
        promise11Contract();
        promise11Side();
        promise11HowManyDuties();
        promise11OutOfRange();
        promise11CannotBeSigned();
        promise11SignedAlready();
        promise11CanBeSigned();
        promise11DraftUntilBoth();
        promise11ByRisingClauses();
        promise11TermOfADuty();
        promise11LaterChanges();
        refusesOtherNumbers(11, "sign", (s, contract) -> s.sign(contract, 0));
    }

    private void promise11SignsForASide() {
        edges.sentence(11, "Signs a draft for a side.");
        for (int i = 0; i < 2; i++) {
            int signer = i;
            edges.state("it has signed", () -> agreedAndSigned(signer), s -> s.sign(0, signer));
            edges.equal("the other one has not", agreedAndSigned(signer).sign(0, 1 - signer), 2);
        }
    }

    private void promise11Contract() {
        edges.sentence(11, ITS_NUMBER);
        ClauseShop shop = Shops.tenDrafts();
        Shops.agree(shop, 0, 0);
        Shops.agree(shop, 9, 9);
        edges.equal("the first contract", shop.sign(0, 0), 0);
        edges.equal("the last contract", shop.sign(9, 1), 0);
        edges.equal("the last contract again", shop.sign(9, 0), 1);
        edges.equal("the first one is a draft still", shop.whyNot(0), 0);
    }

    private void promise11Side() {
        edges.sentence(11, "`side`: 0 or 1");
        ClauseShop shop = Shops.busy();
        edges.equal("side 0", shop.sign(Shops.SIGNED_BY_1, 0), 1);
        edges.equal("side 1", shop.sign(Shops.SIGNED_BY_0, 1), 2);
        refusesOtherSides("sign", (s, side) -> s.sign(Shops.SIGNED_BY_0, side));
    }

    private void promise11HowManyDuties() {
        edges.sentence(11, "Returns how many duties come of it: 0 unless both sides have signed by that.");
        for (int items = 1; items <= 10; items++) {
            ClauseShop shop = Shops.busy();
            for (int clause = 0; clause < 10; clause++) {
                shop.relate(clause, 0, 0);
            }
            for (int clause = 10 - items; clause < 10; clause++) {
                Shops.agree(shop, Shops.EMPTY, clause);
            }
            edges.equal("the first signature", shop.sign(Shops.EMPTY, items % 2), 0);
            edges.equal("no duty more", shop.duties(), Shops.BUSY_DUTIES);
            edges.equal("the second one", shop.sign(Shops.EMPTY, 1 - items % 2), items);
            edges.equal("duties more", shop.duties(), Shops.BUSY_DUTIES + items);
        }
    }

    private void promise11OutOfRange() {
        edges.sentence(11, "Throws `IllegalArgumentException` if side is out of range");
        for (int number = 0; number < Shops.BUSY_CONTRACTS; number++) {
            int contract = number;
            edges.argument("too large, in " + contract, Shops::busy, s -> s.sign(contract, 2));
            edges.argument("too small, in " + contract, Shops::busy, s -> s.sign(contract, -1));
        }
    }

    private void promise11CannotBeSigned() {
        cannotOrHasSentence();
        for (int i = 0; i < 2; i++) {
            int side = i;
            refuses("of no draft", s -> s.sign(Shops.SIGNED, side));
            refuses("of no item", s -> s.sign(Shops.EMPTY, side));
            refuses("of a disputed one", s -> s.sign(Shops.DISPUTED, side));
            refuses("of a lacking one", s -> s.sign(Shops.LACKING, side));
            refuses("of one with a forbidden one", s -> s.sign(Shops.FORBIDDEN, side));
        }
        edges.state("with a relation that came after the first signature",
                Shops.after(Shops::busy, s -> s.relate(6, 1, 0)), s -> s.sign(Shops.SIGNED_BY_0, 1));
    }

    private void cannotOrHasSentence() {
        edges.sentence(11, "Throws `IllegalStateException` if it cannot be signed, or the side has signed it");
    }

    private void promise11SignedAlready() {
        cannotOrHasSentence();
        refuses("side 0 again", s -> s.sign(Shops.SIGNED_BY_0, 0));
        refuses("side 1 again", s -> s.sign(Shops.SIGNED_BY_1, 1));
        Supplier<ClauseShop> both = Shops.after(Shops::busy, s -> s.sign(Shops.SIGNED_BY_0, 1));
        edges.state("side 0 again, after both", both, s -> s.sign(Shops.SIGNED_BY_0, 0));
        edges.state("side 1 again, after both", both, s -> s.sign(Shops.SIGNED_BY_0, 1));
    }

    private void promise11CanBeSigned() {
        edges.sentence(11, CAN_BE_SIGNED);
        ClauseShop shop = Shops.busy();
        Shops.agree(shop, Shops.LACKING, 9);
        edges.equal("with what was needed", shop.sign(Shops.LACKING, 0), 0);
        Shops.takeOut(shop, Shops.FORBIDDEN, 7);
        edges.equal("without what was forbidden", shop.sign(Shops.FORBIDDEN, 0), 0);
        Shops.agree(shop, Shops.EMPTY, 7);
        edges.equal("what another one would forbid, alone", shop.sign(Shops.EMPTY, 0), 0);
        for (int clause = 0; clause < 4; clause++) {
            Shops.agree(shop, Shops.DISPUTED, clause);
        }
        edges.equal("with all agreed", shop.sign(Shops.DISPUTED, 0), 0);
    }

    private void promise11DraftUntilBoth() {
        edges.sentence(11, "A contract is a draft until it is signed by both sides, 0 and 1.");
        for (int signer = 0; signer < 2; signer++) {
            ClauseShop shop = agreedAndSigned(signer);
            shop.issue(0, 0, 0, 0, 0);
            edges.equal("one signature: an item can be renewed", shop.renew(0, 0, 0), 1);
            shop.mark(0, 1, 0, 1);
            shop.sign(0, signer);
            shop.sign(0, 1 - signer);
            edges.equal("both", shop.whyNot(0), 1);
        }
        edges.state("both: an item cannot be marked", Shops::full, s -> s.mark(0, 0, 0, 2));
        edges.state("both: it cannot be signed", Shops::full, s -> s.sign(9, 1));
    }

    private void promise11ByRisingClauses() {
        edges.sentence(11, "When both sides have signed, on a day, each item becomes a duty, by rising clauses; duties "
                + "are numbered from 0 over all contracts.");
        ClauseShop shop = new ClauseShop();
        for (int clause = 0; clause < 10; clause++) {
            shop.issue(clause, 0, 10 * clause, 0, 0);
        }
        Shops.signed(shop, 9, 0);
        edges.equal("duty 0", shop.day(0), 0);
        edges.equal("duty 1", shop.day(1), 90);
        shop.begin();
        Shops.agree(shop, 1, 5);
        Shops.signed(shop, 8, 3, 4);
        edges.equal("duty 2, of the next one to be signed", shop.day(2), 30);
        edges.equal("duty 3", shop.day(3), 40);
        edges.equal("duty 4", shop.day(4), 80);
        shop.sign(1, 1);
        shop.pass(2);
        shop.sign(1, 0);
        edges.equal("duty 5, from the day of the second signature", shop.day(5), 52);
        edges.equal("there are six", shop.duties(), 6);
    }

    private void promise11TermOfADuty() {
        edges.sentence(11, "A duty is open at first; its term is that day plus the days of its version.");
        ClauseShop shop = Shops.onDay(9999);
        shop.issue(1, 0, 100, 50, 1);
        Shops.signed(shop, 0, 1);
        edges.equal("open", shop.state(0), ClauseShop.OPEN);
        edges.equal("open too", shop.state(1), ClauseShop.OPEN);
        edges.equal("no days, on the last day", shop.day(0), 9999);
        edges.equal("a hundred days, on the last day", shop.day(1), 10099);
        ClauseShop first = Shops.twoDuties(0, 0, 0);
        edges.equal("no days, on the first day", first.day(1), 0);
    }

    private void promise11LaterChanges() {
        edges.sentence(11, "Versions and relations of clauses that change later do not matter for it.");
        ClauseShop shop = Shops.stocked(3, 4, 5);
        Shops.signed(shop, 0, 1);
        shop.issue(0, 1, 100, 50, 1000);
        shop.relate(0, 512, 2);
        edges.equal("its term", shop.day(0), 3);
        shop.pass(4);
        edges.equal("its cure", shop.notice(0), 8);
        shop.pass(5);
        edges.equal("its obligor", shop.owes(0, 0), 5);
        edges.equal("and not the new one", shop.owes(0, 1), 0);
        edges.equal("the other side is held up", shop.isSuspended(1), true);
        edges.equal("its penalty", shop.settle(0), 5);
        edges.equal("there are two duties", shop.duties(), 2);
    }
}
