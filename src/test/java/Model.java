import java.util.ArrayList;
import java.util.HashSet;
import java.util.List;
import java.util.Map;
import java.util.Set;
import java.util.TreeMap;

/**
 * The document's terms once more, as slowly and as near to its words as can be: nothing is counted ahead,
 * all is looked up in the whole state when it is asked for. ModelTest holds the class against it.
 */
final class Model {
    private static final class Item {
        int version;
        int[] marks = new int[2];
    }

    private static final class Contract {
        Map<Integer, Item> items = new TreeMap<>();
        Set<Integer> signatures = new HashSet<>();
    }

    private static final class Duty {
        int contract;
        int obligor;
        int cure;
        int penalty;
        String state = "open";
        int term;
        int endOfCure;
        int endedOn;
    }

    private final Map<Integer, List<int[]>> library = new TreeMap<>();
    private final Map<Integer, Integer> needs = new TreeMap<>();
    private final Map<Integer, Integer> forbids = new TreeMap<>();
    private final List<Contract> contracts = new ArrayList<>();
    private final List<Duty> all = new ArrayList<>();
    private int today = 0;

    int issue(int clause, int obligor, int days, int cure, int penalty) {
        argument(clause >= 0 && clause <= 9 && (obligor == 0 || obligor == 1) && days >= 0 && days <= 100);
        argument(cure >= 0 && cure <= 50 && penalty >= 0 && penalty <= 1000);
        List<int[]> versions = library.computeIfAbsent(clause, c -> new ArrayList<>());
        state(versions.size() < 9);
        versions.add(new int[] {obligor, days, cure, penalty});
        return versions.size();
    }

    void relate(int clause, int needed, int forbidden) {
        argument(clause >= 0 && clause <= 9);
        argument(needed >= 0 && needed <= 1023 && !has(needed, clause));
        argument(forbidden >= 0 && forbidden <= 1023 && !has(forbidden, clause));
        needs.put(clause, needed);
        forbids.put(clause, forbidden);
    }

    int latest(int clause) {
        argument(clause >= 0 && clause <= 9);
        return library.getOrDefault(clause, List.of()).size();
    }

    int begin() {
        state(contracts.size() < 10);
        contracts.add(new Contract());
        return contracts.size() - 1;
    }

    int mark(int number, int side, int clause, int mark) {
        Contract contract = contract(number);
        argument((side == 0 || side == 1) && clause >= 0 && clause <= 9 && (mark == 1 || mark == 2));
        state(contract.signatures.size() < 2);
        Item item = contract.items.get(clause);
        if (item == null) {
            state(mark == 1 && latest(clause) > 0);
            item = new Item();
            item.version = latest(clause);
            contract.items.put(clause, item);
        }
        int before = item.marks[side];
        item.marks[side] = mark;
        if (before != mark) {
            contract.signatures.clear();
        }
        int other = item.marks[1 - side];
        if (mark == 2 && (other == 2 || other == 0)) {
            contract.items.remove(clause);
            contract.signatures.clear();
        }
        return before;
    }

    int renew(int number, int side, int clause) {
        Contract contract = contract(number);
        argument((side == 0 || side == 1) && clause >= 0 && clause <= 9);
        state(contract.signatures.size() < 2);
        Item item = contract.items.get(clause);
        state(item != null && item.version != latest(clause));
        int before = item.version;
        item.version = latest(clause);
        item.marks[side] = 1;
        item.marks[1 - side] = 0;
        contract.signatures.clear();
        return before;
    }

    int version(int number, int clause) {
        Contract contract = contract(number);
        argument(clause >= 0 && clause <= 9);
        return contract.items.containsKey(clause) ? contract.items.get(clause).version : 0;
    }

    int offered(int number) {
        Contract contract = contract(number);
        int count = 0;
        for (Map.Entry<Integer, Item> entry : contract.items.entrySet()) {
            if (contract.signatures.size() < 2 && latest(entry.getKey()) > entry.getValue().version) {
                count++;
            }
        }
        return count;
    }

    int whyNot(int number) {
        Contract contract = contract(number);
        if (contract.signatures.size() == 2) {
            return 1;
        }
        if (contract.items.isEmpty()) {
            return 2;
        }
        for (Item item : contract.items.values()) {
            if (item.marks[0] != 1 || item.marks[1] != 1) {
                return 3;
            }
        }
        for (int clause : contract.items.keySet()) {
            for (int other = 0; other < 10; other++) {
                if (has(needs.getOrDefault(clause, 0), other) && !contract.items.containsKey(other)) {
                    return 4;
                }
            }
        }
        for (int clause : contract.items.keySet()) {
            for (int other : contract.items.keySet()) {
                if (has(forbids.getOrDefault(clause, 0), other)) {
                    return 5;
                }
            }
        }
        return 0;
    }

    int sign(int number, int side) {
        Contract contract = contract(number);
        argument(side == 0 || side == 1);
        state(whyNot(number) == 0 && !contract.signatures.contains(side));
        contract.signatures.add(side);
        if (contract.signatures.size() < 2) {
            return 0;
        }
        for (Map.Entry<Integer, Item> entry : contract.items.entrySet()) {
            int[] text = library.get(entry.getKey()).get(entry.getValue().version - 1);
            Duty duty = new Duty();
            duty.contract = number;
            duty.obligor = text[0];
            duty.term = today + text[1];
            duty.cure = text[2];
            duty.penalty = text[3];
            all.add(duty);
        }
        return contract.items.size();
    }

    int pass(int days) {
        argument(days >= 1 && days <= 100);
        state(today + days <= 9999);
        int breached = 0;
        for (int i = 0; i < days; i++) {
            today++;
            List<Duty> suspended = new ArrayList<>();
            for (int number = 0; number < all.size(); number++) {
                if (isSuspended(number)) {
                    suspended.add(all.get(number));
                }
            }
            for (Duty duty : suspended) {
                if (duty.state.equals("open")) {
                    duty.term++;
                } else {
                    duty.endOfCure++;
                }
            }
            for (Duty duty : all) {
                if (duty.state.equals("noticed") && today > duty.endOfCure) {
                    end(duty, "breached");
                    breached++;
                }
            }
        }
        return breached;
    }

    int duties() {
        return all.size();
    }

    int state(int number) {
        return List.of("open", "done", "noticed", "breached", "settled").indexOf(duty(number).state);
    }

    int day(int number) {
        Duty duty = duty(number);
        if (duty.state.equals("open")) {
            return duty.term;
        }
        return duty.state.equals("noticed") ? duty.endOfCure : duty.endedOn;
    }

    boolean isSuspended(int number) {
        Duty duty = duty(number);
        boolean suspended = false;
        for (Duty other : all) {
            if (other.contract == duty.contract && other.obligor != duty.obligor && other.state.equals("breached")) {
                suspended = true;
            }
        }
        return suspended && (duty.state.equals("open") || duty.state.equals("noticed"));
    }

    boolean perform(int number) {
        Duty duty = duty(number);
        state(duty.state.equals("open") || duty.state.equals("noticed"));
        boolean late = duty.state.equals("noticed") || today > duty.term;
        end(duty, "done");
        return late;
    }

    int notice(int number) {
        Duty duty = duty(number);
        state(duty.state.equals("open") && today > duty.term);
        duty.state = "noticed";
        duty.endOfCure = today + duty.cure;
        return duty.endOfCure;
    }

    int settle(int number) {
        Duty duty = duty(number);
        state(duty.state.equals("breached"));
        end(duty, "settled");
        return duty.penalty;
    }

    int owes(int number, int side) {
        contract(number);
        argument(side == 0 || side == 1);
        int sum = 0;
        for (Duty duty : all) {
            if (duty.contract == number && duty.state.equals("breached")) {
                sum += duty.obligor == side ? duty.penalty : -duty.penalty;
            }
        }
        return sum < 0 ? 0 : sum;
    }

    private void end(Duty duty, String state) {
        duty.state = state;
        duty.endedOn = today;
    }

    private Contract contract(int number) {
        if (number < 0 || number >= contracts.size()) {
            throw new IndexOutOfBoundsException();
        }
        return contracts.get(number);
    }

    private Duty duty(int number) {
        if (number < 0 || number >= all.size()) {
            throw new IndexOutOfBoundsException();
        }
        return all.get(number);
    }

    private static boolean has(int set, int clause) {
        return (set >> clause) % 2 != 0;
    }

    private static void argument(boolean holds) {
        if (!holds) {
            throw new IllegalArgumentException();
        }
    }

    private static void state(boolean holds) {
        if (!holds) {
            throw new IllegalStateException();
        }
    }
}
