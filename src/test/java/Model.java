import java.util.ArrayList;
import java.util.List;
import java.util.NoSuchElementException;

/**
 * The document once more, written as plainly as can be with all of Java's library and no thought
 * of cost: each change works on a new copy of the state, and the history is a list of states.
 * RunsTest compares it with the program, call by call.
 */
public final class Model {
    private static final String ENTRY = "([rgbs][0-7]\\*[1-9][0-9]{0,2}|k[0-3]|d[1-9]);";
    private static final String[] ENDS = {"", ";", "1;", "*1;", "1*1;", "d1;"};

    private static final class Row {
        final int part;
        final int quantity;
        final int day;
        final int number;
        int missing;

        Row(int part, int quantity, int day, int number, int missing) {
            this.part = part;
            this.quantity = quantity;
            this.day = day;
            this.number = number;
            this.missing = missing;
        }

        Row copy() {
            return new Row(part, quantity, day, number, missing);
        }
    }

    private static final class Stock {
        int[] now = new int[10];
        int[] moved = new int[8];
        int requested;
        int served;
        List<Integer> others = new ArrayList<>();

        Stock copy() {
            Stock copy = new Stock();
            copy.now = now.clone();
            copy.moved = moved.clone();
            copy.requested = requested;
            copy.served = served;
            copy.others = new ArrayList<>(others);
            return copy;
        }
    }

    private static final class State {
        List<Stock> stocks = new ArrayList<>();
        List<List<int[]>> kits = new ArrayList<>();
        List<Row> waiting = new ArrayList<>();
        List<Row> repairs = new ArrayList<>();
        List<Row> orders = new ArrayList<>();
        int day;
        int made;

        State copy() {
            State copy = new State();
            stocks.forEach(stock -> copy.stocks.add(stock.copy()));
            kits.forEach(kit -> copy.kits.add(new ArrayList<>(kit)));
            waiting.forEach(row -> copy.waiting.add(row.copy()));
            copy.repairs.addAll(repairs);
            copy.orders.addAll(orders);
            copy.day = day;
            copy.made = made;
            return copy;
        }
    }

    private State state = new State();
    private final List<State> history = new ArrayList<>();
    private State saved;
    private final int[][][] shelves = new int[2][3][];
    private String input = "";
    private Integer error;
    private Integer refusedEntry;
    private int[] reason;

    private static void index(boolean isRight) {
        if (!isRight) {
            throw new IndexOutOfBoundsException();
        }
    }

    private static void argument(boolean isRight) {
        if (!isRight) {
            throw new IllegalArgumentException();
        }
    }

    private static void state(boolean isRight) {
        if (!isRight) {
            throw new IllegalStateException();
        }
    }

    private static void element(boolean isRight) {
        if (!isRight) {
            throw new NoSuchElementException();
        }
    }

    private static boolean in(int number, int least, int greatest) {
        return least <= number && number <= greatest;
    }

    private Stock stock(int part) {
        index(in(part, 0, state.stocks.size() - 1));
        return state.stocks.get(part);
    }

    private List<int[]> kit(int kit) {
        index(in(kit, 0, state.kits.size() - 1));
        return state.kits.get(kit);
    }

    /** Called when nothing can be refused any more; what is changed then is a copy. */
    private void change() {
        history.add(state);
        if (history.size() > 8) {
            history.remove(0);
        }
        state = state.copy();
    }

    public int clear() {
        int parts = state.stocks.size();
        state = new State();
        history.clear();
        return parts;
    }

    public int addPart(int stock, int orderLead, int repairLead, int percent) {
        argument(in(stock, 0, 999) && in(orderLead, 1, 9) && in(repairLead, 1, 9) && in(percent, 0, 100));
        state(state.stocks.size() < 8);
        change();
        Stock added = new Stock();
        added.now = new int[] {stock, 0, 0, 0, orderLead, repairLead, percent, 0, 0, 0};
        added.moved[0] = stock;
        state.stocks.add(added);
        return state.stocks.size() - 1;
    }

    public int setBounds(int part, int lower, int upper) {
        stock(part);
        argument(0 <= lower && lower <= upper && upper <= 999);
        change();
        int previous = stock(part).now[2];
        stock(part).now[2] = lower;
        stock(part).now[3] = upper;
        return previous;
    }

    public int setYield(int part, int percent) {
        stock(part);
        argument(in(percent, 0, 100));
        change();
        int previous = stock(part).now[6];
        stock(part).now[6] = percent;
        return previous;
    }

    public int addSubstitute(int part, int other) {
        stock(part);
        stock(other);
        argument(part != other);
        state(stock(part).others.size() < 4 && !stock(part).others.contains(other));
        change();
        stock(part).others.add(other);
        return stock(part).others.size();
    }

    public int removeSubstitute(int part, int other) {
        stock(part);
        stock(other);
        element(stock(part).others.contains(other));
        change();
        stock(part).others.remove(Integer.valueOf(other));
        return stock(part).others.size();
    }

    public int addKit(int kit, int part, int quantity) {
        stock(part);
        index(in(kit, 0, state.kits.size()));
        argument(in(quantity, 1, 9));
        state(kit < 4);
        if (kit < state.kits.size()) {
            state(kit(kit).size() < 4 && kit(kit).stream().noneMatch(item -> item[0] == part));
        }
        change();
        if (kit == state.kits.size()) {
            state.kits.add(new ArrayList<>());
        }
        kit(kit).add(new int[] {part, quantity});
        return kit(kit).size();
    }

    public int count(int what) {
        argument(in(what, 0, 7));
        int missing = state.waiting.stream().mapToInt(row -> row.missing).sum();
        return new int[] {state.stocks.size(), state.kits.size(), state.waiting.size(), state.repairs.size(),
            state.orders.size(), state.day, state.made, missing}[what];
    }

    private int position(int part) {
        int position = stock(part).now[0];
        for (Row order : state.orders) {
            position += order.part == part ? order.quantity : 0;
        }
        for (Row repair : state.repairs) {
            position += repair.part == part ? repair.quantity * stock(part).now[6] / 100 : 0;
        }
        for (Row request : state.waiting) {
            position -= request.part == part ? request.missing : 0;
        }
        return position;
    }

    public int part(int part, int what) {
        stock(part);
        argument(in(what, 0, 9));
        if (what == 7) {
            return position(part);
        }
        return what == 9 ? stock(part).others.size() : stock(part).now[what];
    }

    public int substitute(int part, int index) {
        stock(part);
        element(in(index, 0, stock(part).others.size() - 1));
        return stock(part).others.get(index);
    }

    public int relation(int one, int other) {
        stock(one);
        stock(other);
        return (stock(one).others.contains(other) ? 1 : 0) + (stock(other).others.contains(one) ? 2 : 0);
    }

    public int item(int kit, int index, boolean isPart) {
        kit(kit);
        index(in(index, 0, kit(kit).size() - 1));
        return kit(kit).get(index)[isPart ? 0 : 1];
    }

    /** Takes pieces one by one, each from the first stock that has one; tells from which ones. */
    private List<Integer> serve(int part, int quantity) {
        List<Integer> sources = new ArrayList<>(List.of(part));
        sources.addAll(stock(part).others);
        List<Integer> from = new ArrayList<>();
        while (from.size() < quantity) {
            Integer source = sources.stream().filter(other -> stock(other).now[0] > 0).findFirst().orElse(null);
            if (source == null) {
                break;
            }
            stock(source).now[0]--;
            stock(source).moved[7]++;
            from.add(source);
        }
        return from;
    }

    private void serveWaiting() {
        for (Row row : state.waiting) {
            row.missing -= serve(row.part, row.missing).size();
        }
        state.waiting.removeIf(row -> row.missing == 0);
    }

    private void keep(int... what) {
        reason = what;
    }

    public int request(int part, int quantity) {
        stock(part);
        argument(in(quantity, 1, 999));
        if (available(part) < quantity && state.waiting.size() == 12) {
            keep(1);
            throw new IllegalStateException();
        }
        change();
        int served = serve(part, quantity).size();
        stock(part).requested += quantity;
        stock(part).served += served;
        if (served < quantity) {
            state.waiting.add(new Row(part, quantity, state.day, state.made, quantity - served));
        }
        state.made++;
        return served;
    }

    public int available(int part) {
        return stock(part).now[0] + stock(part).others.stream().mapToInt(other -> stock(other).now[0]).sum();
    }

    public int taken(int part, int other, int quantity) {
        stock(part);
        stock(other);
        argument(in(quantity, 1, 999));
        State now = state;
        state = now.copy();
        List<Integer> from = serve(part, quantity);
        state = now;
        return (int) from.stream().filter(source -> source == other).count();
    }

    public int waiting(int index, int what) {
        index(in(index, 0, state.waiting.size() - 1));
        argument(in(what, 0, 4));
        Row row = state.waiting.get(index);
        return new int[] {row.number, row.part, row.quantity, row.missing, row.day}[what];
    }

    public int cancel(int index) {
        index(in(index, 0, state.waiting.size() - 1));
        change();
        return state.waiting.remove(index).missing;
    }

    /** Takes a kit from a copy of the state; null if the copy has become the state. */
    private int[] tryTake(int kit, int[] ofSubstitutes) {
        State now = state;
        state = now.copy();
        for (int[] item : kit(kit)) {
            List<Integer> from = serve(item[0], item[1]);
            if (from.size() < item[1]) {
                state = now;
                return new int[] {item[0], item[1] - from.size()};
            }
            ofSubstitutes[0] += (int) from.stream().filter(source -> source != item[0]).count();
        }
        return null;
    }

    public int take(int kit) {
        kit(kit);
        State before = state;
        int[] ofSubstitutes = new int[1];
        int[] lack = tryTake(kit, ofSubstitutes);
        if (lack != null) {
            keep(3, lack[0], lack[1]);
            throw new UnsupportedOperationException();
        }
        State behind = state;
        state = before;
        change();
        state = behind;
        return ofSubstitutes[0];
    }

    public int possible(int kit) {
        kit(kit);
        State now = state;
        int times = 0;
        while (times < 99 && tryTake(kit, new int[1]) == null) {
            times++;
        }
        state = now;
        return times;
    }

    public int lacking(int kit) {
        kit(kit);
        State now = state;
        int[] lack = tryTake(kit, new int[1]);
        state = now;
        return lack == null ? -1 : 100 * lack[0] + Math.min(99, lack[1]);
    }

    public int giveBack(int part, int quantity, boolean isGood) {
        stock(part);
        argument(in(quantity, 1, 999));
        change();
        stock(part).now[isGood ? 0 : 1] += quantity;
        stock(part).moved[isGood ? 2 : 3] += quantity;
        int before = state.waiting.size();
        if (isGood) {
            serveWaiting();
        }
        return before - state.waiting.size();
    }

    public int send(int part, int quantity) {
        stock(part);
        argument(in(quantity, 1, 999));
        if (stock(part).now[1] < quantity) {
            keep(2);
            throw new UnsupportedOperationException();
        }
        if (state.repairs.size() == 12) {
            keep(1);
            throw new IllegalStateException();
        }
        change();
        int end = state.day + stock(part).now[5];
        stock(part).now[1] -= quantity;
        stock(part).moved[4] += quantity;
        state.repairs.add(new Row(part, quantity, end, 0, 0));
        return end;
    }

    private static int numberOf(List<Row> rows, int index, int what) {
        index(in(index, 0, rows.size() - 1));
        argument(in(what, 0, 2));
        Row row = rows.get(index);
        return new int[] {row.part, row.quantity, row.day}[what];
    }

    public int repair(int index, int what) {
        return numberOf(state.repairs, index, what);
    }

    public int order(int index, int what) {
        return numberOf(state.orders, index, what);
    }

    private int endRepair(Row row) {
        Stock stock = stock(row.part);
        int sum = stock.now[8] + row.quantity * stock.now[6];
        int good = Math.min(sum / 100, row.quantity);
        stock.now[8] = sum / 100 > row.quantity ? sum - 100 * row.quantity : sum % 100;
        stock.moved[5] += good;
        stock.moved[6] += row.quantity - good;
        stock.now[0] += good;
        if (good > 0) {
            serveWaiting();
        }
        return good;
    }

    private int endDay() {
        state.day++;
        int pieces = 0;
        for (Row row : List.copyOf(state.repairs)) {
            if (row.day == state.day) {
                state.repairs.remove(row);
                pieces += endRepair(row);
            }
        }
        for (Row row : List.copyOf(state.orders)) {
            if (row.day == state.day) {
                state.orders.remove(row);
                stock(row.part).now[0] += row.quantity;
                stock(row.part).moved[1] += row.quantity;
                pieces += row.quantity;
                serveWaiting();
            }
        }
        for (int part = 0; part < state.stocks.size(); part++) {
            if (wanted(part) > 0 && state.orders.size() < 12) {
                state.orders.add(new Row(part, wanted(part), state.day + stock(part).now[4], 0, 0));
            }
        }
        return pieces;
    }

    public int advance(int days) {
        argument(in(days, 1, 30));
        change();
        int pieces = 0;
        for (int day = 0; day < days; day++) {
            pieces += endDay();
        }
        return pieces;
    }

    public int wanted(int part) {
        int position = position(part);
        return position < stock(part).now[2] ? stock(part).now[3] - position : 0;
    }

    public int stockAfter(int part, int days) {
        stock(part);
        argument(in(days, 0, 30));
        State now = state;
        state = now.copy();
        for (int day = 0; day < days; day++) {
            endDay();
        }
        int stock = stock(part).now[0];
        state = now;
        return stock;
    }

    public int movement(int part, int movement) {
        stock(part);
        argument(in(movement, 0, 7));
        return stock(part).moved[movement];
    }

    public int audit() {
        return 0;
    }

    public float service(int part) {
        if (stock(part).requested == 0) {
            throw new ArithmeticException();
        }
        return (float) stock(part).served / (float) stock(part).requested;
    }

    public int serviceBits(int part) {
        return Float.floatToIntBits(service(part));
    }

    private List<Integer> requestedParts() {
        List<Integer> parts = new ArrayList<>();
        for (int part = 0; part < state.stocks.size(); part++) {
            if (stock(part).requested > 0) {
                parts.add(part);
            }
        }
        return parts;
    }

    public int weakest() {
        return requestedParts().stream().min((one, other) -> Float.compare(service(one), service(other))).orElseThrow();
    }

    public double averageService() {
        List<Integer> parts = requestedParts();
        if (parts.isEmpty()) {
            throw new ArithmeticException();
        }
        double sum = 0;
        for (int part : parts) {
            sum += service(part);
        }
        return sum / parts.size();
    }

    public long averageBits() {
        return Double.doubleToLongBits(averageService());
    }

    public int reason(int what) {
        argument(in(what, 0, 2));
        element(reason != null && what < reason.length);
        return reason[what];
    }

    public int sample(int shelf, int place, int part) {
        index(in(shelf, 0, 1) && in(place, 0, 2));
        stock(part);
        if (shelf == 0 && position(part) >= stock(part).now[2]) {
            throw new UnsupportedOperationException();
        }
        shelves[shelf][place] = new int[] {part, stock(part).now[0], position(part), state.day};
        int filled = 0;
        for (int[] held : shelves[shelf]) {
            filled += held == null ? 0 : 1;
        }
        return filled;
    }

    public int sampled(int shelf, int place, int what) {
        index(in(shelf, 0, 1) && in(place, 0, 2));
        argument(in(what, 0, 3));
        element(shelves[shelf][place] != null);
        return shelves[shelf][place][what];
    }

    public int append(char character) {
        argument(in(character, 32, 126));
        state(input.length() < 60);
        input += character;
        return input.length();
    }

    private static int errorOf(String text) {
        for (int k = 0; k < text.length(); k++) {
            boolean goesOn = false;
            for (String end : ENDS) {
                goesOn |= (text.substring(0, k + 1) + end).matches("(" + ENTRY + ")+");
            }
            if (!goesOn) {
                return k;
            }
        }
        return text.length();
    }

    private void act(String entry) {
        char kind = entry.charAt(0);
        int number = entry.charAt(1) - '0';
        int quantity = entry.length() > 2 ? Integer.parseInt(entry.substring(3)) : 0;
        if (kind == 'd') {
            advance(number);
        } else if (kind == 'k') {
            take(number);
        } else if (kind == 'r') {
            request(number, quantity);
        } else if (kind == 's') {
            send(number, quantity);
        } else {
            giveBack(number, quantity, kind == 'g');
        }
    }

    public int read() {
        String text = input;
        input = "";
        if (!text.matches("(" + ENTRY + ")+")) {
            error = errorOf(text);
            throw new IllegalArgumentException();
        }
        State before = state;
        List<State> changes = List.copyOf(history);
        String[] entries = text.split(";");
        int done = 0;
        try {
            for (; done < entries.length; done++) {
                act(entries[done]);
            }
        } catch (RuntimeException e) {
            refusedEntry = done;
            state = before;
        }
        history.clear();
        history.addAll(changes);
        if (done < entries.length) {
            throw new UnsupportedOperationException();
        }
        State behind = state;
        state = before;
        change();
        state = behind;
        return entries.length;
    }

    public int errorPosition() {
        element(error != null);
        return error;
    }

    public int refused() {
        element(refusedEntry != null);
        return refusedEntry;
    }

    public int undo() {
        element(!history.isEmpty());
        state = history.remove(history.size() - 1);
        return history.size();
    }

    public int save() {
        saved = state.copy();
        return saved.stocks.size();
    }

    public int restore() {
        state(saved != null);
        state = saved.copy();
        history.clear();
        return state.stocks.size();
    }
}
