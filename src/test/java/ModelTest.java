import java.util.function.Supplier;

/**
 * Long runs of mixed calls, held against the model after every call: the answer or the exception of the call,
 * and all that can be asked of the state, so that a call that throws is seen to change nothing.
 */
public final class ModelTest {
    private static final Checks CHECKS = new Checks("ModelTest");
    private static final int RUNS = 600;
    private static final int CALLS = 512;
    /** The calls of signUp: begin, twenty marks, a signature, second thoughts, two more signatures. */
    private static final int LONGEST_STEP = 27;
    private static final int[] ODD_ONES = {-1, 10, 100, 1024, Integer.MIN_VALUE, Integer.MAX_VALUE};

    private long seed;
    private final ClauseShop shop = new ClauseShop();
    private final Model model = new Model();
    private final StringBuilder history = new StringBuilder();
    /** A run in long steps comes to the last day. */
    private final boolean longSteps;
    private int begun = 0;
    private int calls = 0;

    private ModelTest(int run) {
        seed = run * 0x9E3779B97F4A7C15L + 1;
        longSteps = run % 4 == 3;
    }

    public static void main(String[] args) {
        for (int run = 0; run < RUNS; run++) {
            if (!new ModelTest(run).holds()) {
                break;
            }
        }
        CHECKS.finish();
    }

    private boolean holds() {
        while (calls < CALLS - LONGEST_STEP) {
            if (!next()) {
                System.out.println(history);
                return false;
            }
        }
        return true;
    }

    /** Of 0 to bound - 1; the same ones in every run of the test. */
    private int any(int bound) {
        seed = seed * 6364136223846793005L + 1442695040888963407L;
        return (int) ((seed >>> 33) % bound);
    }

    /** Mostly 0 to bound - 1, now and then beside it. */
    private int near(int bound) {
        int chance = any(60);
        if (chance == 0) {
            return ODD_ONES[any(ODD_ONES.length)];
        }
        return chance == 1 ? bound : any(bound);
    }

    /** Mostly none, so that drafts can be signed at all. */
    private int clauseSet() {
        if (any(3) != 0) {
            return 0;
        }
        return any(30) == 0 ? ODD_ONES[any(ODD_ONES.length)] : any(1024) & any(1024) & any(1024);
    }

    private int contract() {
        return near(Math.max(1, begun));
    }

    /** Mostly one in that state, where there is one. */
    private int duty(int state) {
        for (int i = 0; i < 10 && model.duties() > 0; i++) {
            int duty = any(model.duties());
            if (model.state(duty) == state) {
                return duty;
            }
        }
        return near(Math.max(1, model.duties()));
    }

    private boolean next() {
        int kind = any(100);
        if (calls < 12 || kind < 3) {
            return issue();
        }
        if (kind < 5) {
            return relate();
        }
        if (kind < 8) {
            return signUp();
        }
        if (kind < 10) {
            return begin();
        }
        if (kind < 40) {
            return draftCall();
        }
        return longSteps && any(2) == 0 ? pass(100) : dutyCall();
    }

    private boolean begin() {
        begun = Math.min(10, begun + 1);
        return same("begin()", () -> shop.begin(), () -> model.begin());
    }

    private boolean signUp() {
        boolean same = begin();
        int share = 1 + any(4);
        for (int clause = 0; clause < 10 && same; clause++) {
            if (any(4) < share) {
                same = mark(begun - 1, 0, clause, 1) && mark(begun - 1, 1, clause, 1);
            }
        }
        same = same && sign(begun - 1, any(2));
        if (any(2) == 0) {
            same = same && secondThoughts(begun - 1, any(10));
        }
        int first = any(2);
        return same && sign(begun - 1, first) && sign(begun - 1, 1 - first);
    }

    /** One side takes its mark back, or the clause is renewed, ahead of both sides' marks for it. */
    private boolean secondThoughts(int contract, int clause) {
        int side = any(2);
        boolean same = any(2) == 0 ? mark(contract, side, clause, 2) : renew(contract, side, clause);
        return same && mark(contract, 0, clause, 1) && mark(contract, 1, clause, 1);
    }

    private boolean issue() {
        int clause = any(2) == 0 ? any(2) : near(10);
        int obligor = near(2);
        int days = any(3) == 0 ? near(101) : any(5);
        int cure = any(3) == 0 ? near(51) : any(4);
        int penalty = near(1001);
        return same("issue(" + clause + ", " + obligor + ", " + days + ", " + cure + ", " + penalty + ")",
                () -> shop.issue(clause, obligor, days, cure, penalty),
                () -> model.issue(clause, obligor, days, cure, penalty));
    }

    private boolean relate() {
        int clause = near(10);
        int needs = clauseSet();
        int forbids = clauseSet();
        return same("relate(" + clause + ", " + needs + ", " + forbids + ")", () -> {
            shop.relate(clause, needs, forbids);
            return 0;
        }, () -> {
            model.relate(clause, needs, forbids);
            return 0;
        });
    }

    private boolean draftCall() {
        int contract = contract();
        int side = near(2);
        int clause = near(10);
        int kind = any(10);
        if (kind < 7) {
            return mark(contract, side, clause, any(30) == 0 ? near(4) : any(3) == 0 ? 2 : 1);
        }
        if (kind < 8) {
            return sign(contract, side);
        }
        return renew(contract, side, clause);
    }

    private boolean renew(int contract, int side, int clause) {
        return same("renew(" + contract + ", " + side + ", " + clause + ")",
                () -> shop.renew(contract, side, clause), () -> model.renew(contract, side, clause));
    }

    private boolean mark(int contract, int side, int clause, int mark) {
        return same("mark(" + contract + ", " + side + ", " + clause + ", " + mark + ")",
                () -> shop.mark(contract, side, clause, mark), () -> model.mark(contract, side, clause, mark));
    }

    private boolean sign(int contract, int side) {
        return same("sign(" + contract + ", " + side + ")",
                () -> shop.sign(contract, side), () -> model.sign(contract, side));
    }

    private boolean dutyCall() {
        int kind = any(100);
        if (kind < 35) {
            return pass(any(20) == 0 ? near(101) : 1 + any(3));
        }
        if (kind < 42) {
            int duty = duty(any(2) == 0 ? ClauseShop.OPEN : ClauseShop.NOTICED);
            return same("perform(" + duty + ")", () -> shop.perform(duty), () -> model.perform(duty));
        }
        if (kind < 80) {
            int duty = duty(ClauseShop.OPEN);
            return same("notice(" + duty + ")", () -> shop.notice(duty), () -> model.notice(duty));
        }
        if (kind < 92) {
            int duty = duty(ClauseShop.BREACHED);
            return same("settle(" + duty + ")", () -> shop.settle(duty), () -> model.settle(duty));
        }
        return ask(any(8));
    }

    private boolean pass(int days) {
        return same("pass(" + days + ")", () -> shop.pass(days), () -> model.pass(days));
    }

    /** What sameState asks of what there is, asked here of what there may not be, too. */
    private boolean ask(int kind) {
        int contract = contract();
        int duty = duty(any(5));
        int clause = near(10);
        int side = near(2);
        switch (kind) {
            case 0:
                return same("latest(" + clause + ")", () -> shop.latest(clause), () -> model.latest(clause));
            case 1:
                return same("version(" + contract + ", " + clause + ")",
                        () -> shop.version(contract, clause), () -> model.version(contract, clause));
            case 2:
                return same("offered(" + contract + ")", () -> shop.offered(contract), () -> model.offered(contract));
            case 3:
                return same("whyNot(" + contract + ")", () -> shop.whyNot(contract), () -> model.whyNot(contract));
            case 4:
                return same("owes(" + contract + ", " + side + ")",
                        () -> shop.owes(contract, side), () -> model.owes(contract, side));
            case 5:
                return same("state(" + duty + ")", () -> shop.state(duty), () -> model.state(duty));
            case 6:
                return same("day(" + duty + ")", () -> shop.day(duty), () -> model.day(duty));
            default:
                return same("isSuspended(" + duty + ")",
                        () -> shop.isSuspended(duty), () -> model.isSuspended(duty));
        }
    }

    private boolean same(String call, Supplier<Object> got, Supplier<Object> want) {
        calls++;
        Object wanted = due(want);
        history.append(call).append(" -> ").append(wanted).append('\n');
        return agree(call, answer(got), wanted) && sameState();
    }

    private static Object answer(Supplier<Object> call) {
        try {
            return call.get();
        } catch (RuntimeException e) {
            return Checks.kindOf(e);
        }
    }

    private static Object due(Supplier<Object> call) {
        try {
            return call.get();
        } catch (RuntimeException e) {
            return e.getClass();
        }
    }

    private static boolean agree(String call, Object got, Object want) {
        CHECKS.equal(call, got, want);
        return want.equals(got);
    }

    private boolean sameState() {
        boolean same = agree("duties()", shop.duties(), model.duties());
        for (int i = 0; i < 10 && same; i++) {
            int number = i;
            same = agree("latest(" + i + ")", shop.latest(i), model.latest(i)) && sameContract(number);
        }
        for (int i = 0; i < model.duties() && same; i++) {
            same = agree("state(" + i + ")", shop.state(i), model.state(i))
                    && agree("day(" + i + ")", shop.day(i), model.day(i))
                    && agree("isSuspended(" + i + ")", shop.isSuspended(i), model.isSuspended(i));
        }
        return same;
    }

    private boolean sameContract(int number) {
        boolean same = agree("whyNot(" + number + ")",
                answer(() -> shop.whyNot(number)), due(() -> model.whyNot(number)));
        if (!same || number >= begun) {
            return same;
        }
        for (int i = 0; i < 10 && same; i++) {
            same = agree("version(" + number + ", " + i + ")", shop.version(number, i), model.version(number, i));
        }
        return same && agree("offered(" + number + ")", shop.offered(number), model.offered(number))
                && agree("owes(" + number + ", 0)", shop.owes(number, 0), model.owes(number, 0))
                && agree("owes(" + number + ", 1)", shop.owes(number, 1), model.owes(number, 1));
    }
}
