import java.util.ArrayList;

/**
 * Contract texts from a library of clauses: drafts of two sides, signatures, and the duties that come of them.
 * What each call does is told in the project's document, promises 1 to 20.
 */
public final class ClauseShop {
    public static final int OPEN = 0, DONE = 1, NOTICED = 2, BREACHED = 3, SETTLED = 4;

    private static final int CLAUSES = 10;
    private static final int ALL_CLAUSES = (1 << CLAUSES) - 1;
    private static final int MOST_VERSIONS = 9;
    private static final int MOST_CONTRACTS = 10;
    private static final int MOST_TERM_DAYS = 100;
    private static final int MOST_CURE_DAYS = 50;
    private static final int MOST_PENALTY = 1000;
    private static final int MOST_PASSING_DAYS = 100;
    private static final int LAST_DAY = 9999;

    private static final int MARK_NONE = 0, MARK_IN = 1, MARK_OUT = 2;

    private static final int CAN_BE_SIGNED = 0, NO_DRAFT = 1, NO_ITEM = 2, NOT_AGREED = 3, NEEDED_IS_MISSING = 4,
            FORBIDDEN_IS_THERE = 5;

    /** Never changes once it is issued, so items and duties hold it itself and later versions can't touch them. */
    private static final class Version {
        final int number;
        final int obligor;
        final int days;
        final int cure;
        final int penalty;

        Version(int number, int obligor, int days, int cure, int penalty) {
            this.number = number;
            this.obligor = obligor;
            this.days = days;
            this.cure = cure;
            this.penalty = penalty;
        }
    }

    private static final class Contract {
        /** By clause; null where the contract has no item. */
        final Version[] items = new Version[CLAUSES];
        /** By side and clause; they mean nothing where there is no item, and bringIn sets both of them. */
        final int[][] marks = new int[2][CLAUSES];
        final boolean[] signed = new boolean[2];
        /** By side: how many of its duties are breached and not settled, and the sum of their penalties. */
        final int[] breaches = new int[2];
        final int[] penalties = new int[2];

        boolean isDraft() {
            return !(signed[0] && signed[1]);
        }

        void loseSignatures() {
            signed[0] = false;
            signed[1] = false;
        }

        void bringIn(Version version, int clause, int side) {
            items[clause] = version;
            marks[side][clause] = MARK_IN;
            marks[1 - side][clause] = MARK_NONE;
            loseSignatures();
        }

        void changeMark(int side, int clause, int mark) {
            // a mark that stays the same leaves the signatures standing
            if (marks[side][clause] == mark) {
                return;
            }
            marks[side][clause] = mark;
            loseSignatures();
            if (marks[0][clause] != MARK_IN && marks[1][clause] != MARK_IN) {
                items[clause] = null;
            }
        }

        /** The clauses that have items, as a sum of 2 to the power of each. */
        int clauseSet() {
            int set = 0;
            for (int clause = 0; clause < CLAUSES; clause++) {
                if (items[clause] != null) {
                    set |= 1 << clause;
                }
            }
            return set;
        }

        boolean isAgreed() {
            for (int clause = 0; clause < CLAUSES; clause++) {
                if (items[clause] != null && (marks[0][clause] != MARK_IN || marks[1][clause] != MARK_IN)) {
                    return false;
                }
            }
            return true;
        }
    }

    private static final class Duty {
        final Contract contract;
        final Version version;
        int state = OPEN;
        /** The term, the end of the cure, or the day of what ended the duty, as its state has it. */
        int day;

        Duty(Contract contract, Version version, int day) {
            this.contract = contract;
            this.version = version;
            this.day = day;
        }

        boolean canBeDone() {
            return state == OPEN || state == NOTICED;
        }

        boolean isHeldUp() {
            return canBeDone() && contract.breaches[1 - version.obligor] > 0;
        }

        void move(int newState, int newDay) {
            state = newState;
            day = newDay;
        }

        /** Counts the duty among the open breaches of its side (1), or takes it out of them (-1). */
        void countBreach(int sign) {
            contract.breaches[version.obligor] += sign;
            contract.penalties[version.obligor] += sign * version.penalty;
        }
    }

    /** By clause; null where the clause is not in the library. */
    private final Version[] newest = new Version[CLAUSES];
    private final int[] needs = new int[CLAUSES];
    private final int[] forbids = new int[CLAUSES];
    private final ArrayList<Contract> contracts = new ArrayList<Contract>();
    private final ArrayList<Duty> dutyList = new ArrayList<Duty>();
    private int today = 0;

    public ClauseShop() {
    }

    // ---- the library

    public int issue(int clause, int obligor, int days, int cure, int penalty)
            throws IllegalArgumentException, IllegalStateException {
        checkClause(clause);
        checkSide(obligor);
        if (!isWithin(days, 0, MOST_TERM_DAYS) || !isWithin(cure, 0, MOST_CURE_DAYS)
                || !isWithin(penalty, 0, MOST_PENALTY)) {
            throw new IllegalArgumentException("days, cure or penalty out of range");
        }
        int number = newestNumber(clause) + 1;
        if (number > MOST_VERSIONS) {
            throw new IllegalStateException("the clause has all its versions");
        }
        newest[clause] = new Version(number, obligor, days, cure, penalty);
        return number;
    }

    public void relate(int clause, int needs, int forbids) throws IllegalArgumentException {
        checkClause(clause);
        checkOtherClauses(clause, needs);
        checkOtherClauses(clause, forbids);
        this.needs[clause] = needs;
        this.forbids[clause] = forbids;
    }

    public int latest(int clause) throws IllegalArgumentException {
        checkClause(clause);
        return newestNumber(clause);
    }

    // ---- drafts

    public int begin() throws IllegalStateException {
        int number = contracts.size();
        if (number >= MOST_CONTRACTS) {
            throw new IllegalStateException("no more contracts");
        }
        contracts.add(new Contract());
        return number;
    }

    public int mark(int contract, int side, int clause, int mark)
            throws IndexOutOfBoundsException, IllegalArgumentException, IllegalStateException {
        Contract draft = contractAt(contract);
        checkSide(side);
        checkClause(clause);
        if (!isWithin(mark, MARK_IN, MARK_OUT)) {
            throw new IllegalArgumentException("mark out of range");
        }
        checkDraft(draft);
        if (draft.items[clause] == null) {
            if (mark == MARK_OUT || newest[clause] == null) {
                throw new IllegalStateException("no item for the clause, and none can be made");
            }
            draft.bringIn(newest[clause], clause, side);
            return MARK_NONE;
        }
        int before = draft.marks[side][clause];
        draft.changeMark(side, clause, mark);
        return before;
    }

    public int renew(int contract, int side, int clause)
            throws IndexOutOfBoundsException, IllegalArgumentException, IllegalStateException {
        Contract draft = contractAt(contract);
        checkSide(side);
        checkClause(clause);
        checkDraft(draft);
        if (!hasLaterVersion(draft, clause)) {
            throw new IllegalStateException("no item for the clause, or it has the latest version");
        }
        int before = itemNumber(draft, clause);
        draft.bringIn(newest[clause], clause, side);
        return before;
    }

    public int version(int contract, int clause) throws IndexOutOfBoundsException, IllegalArgumentException {
        Contract asked = contractAt(contract);
        checkClause(clause);
        return itemNumber(asked, clause);
    }

    public int offered(int contract) throws IndexOutOfBoundsException {
        Contract asked = contractAt(contract);
        if (!asked.isDraft()) {
            return 0;
        }
        int count = 0;
        for (int clause = 0; clause < CLAUSES; clause++) {
            if (hasLaterVersion(asked, clause)) {
                count++;
            }
        }
        return count;
    }

    public int whyNot(int contract) throws IndexOutOfBoundsException {
        return obstacle(contractAt(contract));
    }

    public int sign(int contract, int side)
            throws IndexOutOfBoundsException, IllegalArgumentException, IllegalStateException {
        Contract draft = contractAt(contract);
        checkSide(side);
        if (obstacle(draft) != CAN_BE_SIGNED || draft.signed[side]) {
            throw new IllegalStateException("it cannot be signed, or the side has signed it");
        }
        draft.signed[side] = true;
        return draft.isDraft() ? 0 : makeDuties(draft);
    }

    // ---- duties

    public int pass(int days) throws IllegalArgumentException, IllegalStateException {
        if (!isWithin(days, 1, MOST_PASSING_DAYS)) {
            throw new IllegalArgumentException("days out of range");
        }
        if (today + days > LAST_DAY) {
            throw new IllegalStateException("later than the last day");
        }
        int breached = 0;
        for (int i = 0; i < days; i++) {
            today++;
            // all of them ahead of the first breach, as a breach of this day holds up nothing on this day
            putOffHeldUpDuties();
            breached += breachUncuredDuties();
        }
        return breached;
    }

    public int duties() {
        return dutyList.size();
    }

    public int state(int duty) throws IndexOutOfBoundsException {
        return dutyAt(duty).state;
    }

    public int day(int duty) throws IndexOutOfBoundsException {
        return dutyAt(duty).day;
    }

    public boolean isSuspended(int duty) throws IndexOutOfBoundsException {
        return dutyAt(duty).isHeldUp();
    }

    public boolean perform(int duty) throws IndexOutOfBoundsException, IllegalStateException {
        Duty done = dutyAt(duty);
        if (!done.canBeDone()) {
            throw new IllegalStateException("the duty is neither open nor noticed");
        }
        boolean late = done.state == NOTICED || today > done.day;
        done.move(DONE, today);
        return late;
    }

    public int notice(int duty) throws IndexOutOfBoundsException, IllegalStateException {
        Duty late = dutyAt(duty);
        if (late.state != OPEN || today <= late.day) {
            throw new IllegalStateException("the duty is not open, or not late");
        }
        late.move(NOTICED, today + late.version.cure);
        return late.day;
    }

    public int settle(int duty) throws IndexOutOfBoundsException, IllegalStateException {
        Duty settled = dutyAt(duty);
        if (settled.state != BREACHED) {
            throw new IllegalStateException("the duty is not breached");
        }
        settled.move(SETTLED, today);
        settled.countBreach(-1);
        return settled.version.penalty;
    }

    public int owes(int contract, int side) throws IndexOutOfBoundsException, IllegalArgumentException {
        Contract asked = contractAt(contract);
        checkSide(side);
        return Math.max(0, asked.penalties[side] - asked.penalties[1 - side]);
    }

    // ---- what the calls share

    private static boolean isWithin(int value, int least, int most) {
        return value >= least && value <= most;
    }

    private static void checkClause(int clause) {
        if (!isWithin(clause, 0, CLAUSES - 1)) {
            throw new IllegalArgumentException("clause out of range");
        }
    }

    private static void checkSide(int side) {
        if (!isWithin(side, 0, 1)) {
            throw new IllegalArgumentException("side out of range");
        }
    }

    private static void checkOtherClauses(int clause, int set) {
        if (!isWithin(set, 0, ALL_CLAUSES) || (set & 1 << clause) != 0) {
            throw new IllegalArgumentException("no set of other clauses");
        }
    }

    private static void checkDraft(Contract contract) {
        if (!contract.isDraft()) {
            throw new IllegalStateException("it is no draft");
        }
    }

    private Contract contractAt(int number) {
        if (!isWithin(number, 0, contracts.size() - 1)) {
            throw new IndexOutOfBoundsException("no such contract");
        }
        return contracts.get(number);
    }

    private Duty dutyAt(int number) {
        if (!isWithin(number, 0, dutyList.size() - 1)) {
            throw new IndexOutOfBoundsException("no such duty");
        }
        return dutyList.get(number);
    }

    private static int numberOf(Version version) {
        return version == null ? 0 : version.number;
    }

    private int newestNumber(int clause) {
        return numberOf(newest[clause]);
    }

    private static int itemNumber(Contract contract, int clause) {
        return numberOf(contract.items[clause]);
    }

    private boolean hasLaterVersion(Contract contract, int clause) {
        return contract.items[clause] != null && itemNumber(contract, clause) < newestNumber(clause);
    }

    private int obstacle(Contract contract) {
        int present = contract.clauseSet();
        if (!contract.isDraft()) {
            return NO_DRAFT;
        }
        if (present == 0) {
            return NO_ITEM;
        }
        if (!contract.isAgreed()) {
            return NOT_AGREED;
        }
        if ((unionOver(present, needs) & ~present) != 0) {
            return NEEDED_IS_MISSING;
        }
        return (unionOver(present, forbids) & present) != 0 ? FORBIDDEN_IS_THERE : CAN_BE_SIGNED;
    }

    /** All clauses that are related to a clause of the set. */
    private static int unionOver(int set, int[] relation) {
        int union = 0;
        for (int clause = 0; clause < CLAUSES; clause++) {
            if ((set & 1 << clause) != 0) {
                union |= relation[clause];
            }
        }
        return union;
    }

    private int makeDuties(Contract contract) {
        int made = 0;
        for (int clause = 0; clause < CLAUSES; clause++) {
            Version version = contract.items[clause];
            if (version != null) {
                dutyList.add(new Duty(contract, version, today + version.days));
                made++;
            }
        }
        return made;
    }

    private void putOffHeldUpDuties() {
        for (int i = 0; i < dutyList.size(); i++) {
            Duty duty = dutyList.get(i);
            if (duty.isHeldUp()) {
                duty.day++;
            }
        }
    }

    private int breachUncuredDuties() {
        int breached = 0;
        for (int i = 0; i < dutyList.size(); i++) {
            Duty duty = dutyList.get(i);
            if (duty.state == NOTICED && today > duty.day) {
                duty.move(BREACHED, today);
                duty.countBreach(1);
                breached++;
            }
        }
        return breached;
    }
}
