import java.util.List;
import java.util.function.Function;
import java.util.function.Supplier;

/**
 * Ways to ask a shop for all that it knows. What no call tells at once, such as a signature or the present day,
 * shows in calls that change the shop: so each way is for a shop of its own, and stays under its 512 calls.
 */
final class Probes {
    static final List<Function<ClauseShop, String>> ALL = List.of(Probes::answers, Probes::signatures, Probes::marks,
            Probes::daysLeft, Probes::fateOfDuties, Probes::library);

    private static final int CONTRACTS = 10, CLAUSES = 10;

    private final ClauseShop shop;
    private final StringBuilder told = new StringBuilder();

    private Probes(ClauseShop shop) {
        this.shop = shop;
    }

    /** Answers whether the call was taken. */
    private boolean tell(Supplier<Object> call) {
        try {
            told.append(call.get()).append(' ');
            return true;
        } catch (RuntimeException e) {
            Object kind = Checks.kindOf(e);
            told.append(kind == e.getClass() ? e.getClass().getSimpleName() : kind).append(' ');
            return false;
        }
    }

    private static String answers(ClauseShop shop) {
        Probes probe = new Probes(shop);
        for (int i = 0; i < CLAUSES; i++) {
            int clause = i;
            probe.tell(() -> shop.latest(clause));
        }
        for (int i = 0; i < CONTRACTS; i++) {
            probe.contract(i);
        }
        probe.duties();
        return probe.told.toString();
    }

    private void contract(int contract) {
        if (!tell(() -> shop.whyNot(contract))) {
            return;
        }
        tell(() -> shop.offered(contract));
        tell(() -> shop.owes(contract, 0));
        tell(() -> shop.owes(contract, 1));
        for (int i = 0; i < CLAUSES; i++) {
            int clause = i;
            tell(() -> shop.version(contract, clause));
        }
    }

    private void duties() {
        for (int i = 0; i < shop.duties(); i++) {
            int duty = i;
            tell(() -> shop.state(duty));
            tell(() -> shop.day(duty));
            tell(() -> shop.isSuspended(duty));
        }
    }

    private static String signatures(ClauseShop shop) {
        Probes probe = new Probes(shop);
        for (int i = 0; i < CONTRACTS; i++) {
            int contract = i;
            probe.tell(() -> shop.sign(contract, 0));
            probe.tell(() -> shop.sign(contract, 1));
        }
        return probe.told.toString();
    }

    private static String marks(ClauseShop shop) {
        Probes probe = new Probes(shop);
        for (int i = 0; i < CONTRACTS * CLAUSES; i++) {
            int contract = i / CLAUSES;
            int clause = i % CLAUSES;
            probe.tell(() -> shop.mark(contract, 0, clause, 1));
            probe.tell(() -> shop.mark(contract, 1, clause, 1));
        }
        return probe.told.toString();
    }

    private static String daysLeft(ClauseShop shop) {
        Probes probe = new Probes(shop);
        for (int days : new int[] {100, 1}) {
            int taken = 0;
            while (taken < 100 && probe.tell(() -> shop.pass(days))) {
                taken++;
            }
            probe.told.append(taken).append(" times ").append(days).append(' ');
        }
        return probe.told.toString();
    }

    private static String fateOfDuties(ClauseShop shop) {
        Probes probe = new Probes(shop);
        int duties = Math.min(30, shop.duties());
        for (int i = 0; i < duties; i++) {
            int duty = i;
            probe.tell(() -> shop.notice(duty));
        }
        probe.tell(() -> shop.pass(60));
        for (int i = 0; i < duties; i++) {
            int duty = i;
            probe.tell(() -> shop.settle(duty));
            probe.tell(() -> shop.perform(duty));
            probe.tell(() -> shop.day(duty));
        }
        return probe.told.toString();
    }

    /** The relations first, then the newest versions by the duties that they make; of a shop with room for a draft. */
    private static String library(ClauseShop shop) {
        Probes probe = new Probes(shop);
        if (!probe.tell(() -> shop.begin())) {
            return probe.told.toString();
        }
        int draft = shop.begin();
        for (int i = 0; i < CLAUSES; i++) {
            int clause = i;
            if (probe.tell(() -> shop.mark(draft, 0, clause, 1))) {
                shop.mark(draft, 1, clause, 1);
            }
        }
        for (int i = 0; i < CLAUSES; i++) {
            probe.withoutOne(draft, i);
        }
        for (int i = 0; i < CLAUSES; i++) {
            shop.relate(i, 0, 0);
        }
        probe.tell(() -> shop.sign(draft, 0));
        probe.tell(() -> shop.sign(draft, 1));
        probe.duties();
        probe.tell(() -> shop.pass(100));
        return probe.told.append(fateOfDuties(shop)).toString();
    }

    private void withoutOne(int draft, int clause) {
        if (shop.version(draft, clause) == 0) {
            return;
        }
        shop.mark(draft, 0, clause, 2);
        shop.mark(draft, 1, clause, 2);
        tell(() -> shop.whyNot(draft));
        shop.mark(draft, 0, clause, 1);
        shop.mark(draft, 1, clause, 1);
    }
}
