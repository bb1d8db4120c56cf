import java.util.NoSuchElementException;

/** A planner for spare parts; the document's promises say what each method does. */
public final class SparePlanner {
    private static final int MAX_PARTS = 8;
    private static final int MAX_SUBSTITUTES = 4;
    private static final int MAX_KITS = 4;
    private static final int MAX_ITEMS = 4;
    private static final int MAX_WAITING = 12;
    private static final int MAX_UNDER_WAY = 12;
    private static final int MAX_CHANGES = 8;
    private static final int MAX_CHARACTERS = 60;
    // the shortest entries, k0; and d1; have 3 characters
    private static final int MAX_ENTRIES = MAX_CHARACTERS / 3;
    private static final int MAX_POSSIBLE = 99;
    private static final int SHELVES = 2;
    private static final int PLACES = 3;

    private static final int MAX_PIECES = 999;
    private static final int MAX_LEAD = 9;
    private static final int MAX_PERCENT = 100;
    private static final int MAX_ITEM_QUANTITY = 9;
    private static final int MAX_DAYS = 30;

    private static final int FIRST_STOCK = 0;
    private static final int RECEIVED = 1;
    private static final int RETURNED_GOOD = 2;
    private static final int RETURNED_BROKEN = 3;
    private static final int SENT = 4;
    private static final int REPAIRED = 5;
    private static final int SCRAPPED = 6;
    private static final int ISSUED = 7;
    private static final int MOVEMENTS = 8;

    private static final int NO_REASON = 0;
    private static final int TOO_MANY = 1;
    private static final int NOT_SO_MANY_BROKEN = 2;
    private static final int ITEM_NOT_SERVED = 3;

    private static final int NOTHING = -1;

    private final World world = new World();
    // what would happen is tried here, so that the world itself stays as it is
    private final World trial = new World();
    private final World saved = new World();
    private boolean isSaved;
    private final World[] history = new World[MAX_CHANGES];
    private int oldest;
    private int remembered;
    private final Text text = new Text();
    private int lastError = NOTHING;
    private int lastRefused = NOTHING;
    private int lastReason = NO_REASON;
    private int reasonPart;
    private int reasonMissing;
    private final Sample[] samples = new Sample[SHELVES * PLACES];

    public SparePlanner() {
        for (int i = 0; i < MAX_CHANGES; i++) {
            history[i] = new World();
        }
        for (int i = 0; i < SHELVES * PLACES; i++) {
            samples[i] = new Sample();
        }
    }

    // ---- parts, substitutes and kits

    public int clear() {
        int parts = world.partCount;
        world.makeEmpty();
        forgetChanges();
        return parts;
    }

    public int addPart(int stock, int orderLead, int repairLead, int percent)
            throws IllegalArgumentException, IllegalStateException {
        needRange(stock, 0, MAX_PIECES);
        needRange(orderLead, 1, MAX_LEAD);
        needRange(repairLead, 1, MAX_LEAD);
        needRange(percent, 0, MAX_PERCENT);
        int part = world.partCount;
        if (part >= MAX_PARTS) {
            throw new IllegalStateException("there are 8 parts");
        }
        remember();
        world.parts[part].begin(stock, orderLead, repairLead, percent);
        world.partCount = part + 1;
        return part;
    }

    public int setBounds(int part, int lower, int upper)
            throws IndexOutOfBoundsException, IllegalArgumentException {
        needPart(part);
        needRange(lower, 0, MAX_PIECES);
        needRange(upper, lower, MAX_PIECES);
        remember();
        Part changed = world.parts[part];
        int previous = changed.lower;
        changed.lower = lower;
        changed.upper = upper;
        return previous;
    }

    public int setYield(int part, int percent)
            throws IndexOutOfBoundsException, IllegalArgumentException {
        needPart(part);
        needRange(percent, 0, MAX_PERCENT);
        remember();
        Part changed = world.parts[part];
        int previous = changed.percent;
        changed.percent = percent;
        return previous;
    }

    public int addSubstitute(int part, int other)
            throws IndexOutOfBoundsException, IllegalArgumentException, IllegalStateException {
        needPart(part);
        needPart(other);
        if (part == other) {
            throw new IllegalArgumentException("a part is no substitute of itself");
        }
        Part changed = world.parts[part];
        if (changed.substituteCount >= MAX_SUBSTITUTES || changed.indexOf(other) != NOTHING) {
            throw new IllegalStateException("the part has 4 substitutes or has this one");
        }
        remember();
        changed.addLast(other);
        return changed.substituteCount;
    }

    public int removeSubstitute(int part, int other)
            throws IndexOutOfBoundsException, NoSuchElementException {
        needPart(part);
        needPart(other);
        Part changed = world.parts[part];
        int index = changed.indexOf(other);
        if (index == NOTHING) {
            throw new NoSuchElementException("the part has no such substitute");
        }
        remember();
        changed.removeAt(index);
        return changed.substituteCount;
    }

    public int addKit(int kit, int part, int quantity)
            throws IndexOutOfBoundsException, IllegalArgumentException, IllegalStateException {
        needPart(part);
        if (kit < 0 || kit > world.kitCount) {
            throw new IndexOutOfBoundsException("there is no such kit, nor is it the next one");
        }
        needRange(quantity, 1, MAX_ITEM_QUANTITY);
        if (kit >= MAX_KITS) {
            throw new IllegalStateException("there are 4 kits");
        }
        boolean isNew = kit == world.kitCount;
        if (!isNew && !world.kits[kit].canHold(part)) {
            throw new IllegalStateException("the kit has 4 items or has this part");
        }
        remember();
        return world.addItem(kit, part, quantity);
    }

    public int count(int what) throws IllegalArgumentException {
        switch (what) {
            case 0: return world.partCount;
            case 1: return world.kitCount;
            case 2: return world.waitingCount;
            case 3: return world.repairs.size;
            case 4: return world.orders.size;
            case 5: return world.day;
            case 6: return world.requestCount;
            case 7: return world.allMissing();
            default: throw new IllegalArgumentException("what is not 0 to 7");
        }
    }

    public int part(int part, int what) throws IndexOutOfBoundsException, IllegalArgumentException {
        needPart(part);
        Part asked = world.parts[part];
        switch (what) {
            case 0: return asked.stock;
            case 1: return asked.broken;
            case 2: return asked.lower;
            case 3: return asked.upper;
            case 4: return asked.orderLead;
            case 5: return asked.repairLead;
            case 6: return asked.percent;
            case 7: return world.positionOf(part);
            case 8: return asked.hundredths;
            case 9: return asked.substituteCount;
            default: throw new IllegalArgumentException("what is not 0 to 9");
        }
    }

    public int substitute(int part, int index) throws IndexOutOfBoundsException, NoSuchElementException {
        needPart(part);
        Part asked = world.parts[part];
        if (index < 0 || index >= asked.substituteCount) {
            throw new NoSuchElementException("there is no such substitute");
        }
        return asked.substitutes[index];
    }

    public int relation(int one, int other) throws IndexOutOfBoundsException {
        needPart(one);
        needPart(other);
        int forward = world.parts[one].indexOf(other) == NOTHING ? 0 : 1;
        int backward = world.parts[other].indexOf(one) == NOTHING ? 0 : 2;
        return forward + backward;
    }

    public int item(int kit, int index, boolean isPart) throws IndexOutOfBoundsException {
        needKit(kit);
        Kit asked = world.kits[kit];
        if (index < 0 || index >= asked.itemCount) {
            throw new IndexOutOfBoundsException("there is no such item");
        }
        return isPart ? asked.parts[index] : asked.quantities[index];
    }

    // ---- requests and kits

    public int request(int part, int quantity)
            throws IndexOutOfBoundsException, IllegalArgumentException, IllegalStateException {
        needPart(part);
        needRange(quantity, 1, MAX_PIECES);
        int obstacle = world.obstacleToRequest(part, quantity);
        if (obstacle != NO_REASON) {
            lastReason = obstacle;
            throw new IllegalStateException("12 requests wait");
        }
        remember();
        return world.makeRequest(part, quantity);
    }

    public int available(int part) throws IndexOutOfBoundsException {
        needPart(part);
        return world.stockInReach(part);
    }

    public int taken(int part, int other, int quantity)
            throws IndexOutOfBoundsException, IllegalArgumentException {
        needPart(part);
        needPart(other);
        needRange(quantity, 1, MAX_PIECES);
        trial.copyFrom(world);
        trial.serve(part, quantity);
        return world.parts[other].stock - trial.parts[other].stock;
    }

    public int waiting(int index, int what) throws IndexOutOfBoundsException, IllegalArgumentException {
        needIndex(index, world.waitingCount);
        WaitingRequest asked = world.waiting[index];
        switch (what) {
            case 0: return asked.number;
            case 1: return asked.part;
            case 2: return asked.quantity;
            case 3: return asked.missing;
            case 4: return asked.day;
            default: throw new IllegalArgumentException("what is not 0 to 4");
        }
    }

    public int cancel(int index) throws IndexOutOfBoundsException {
        needIndex(index, world.waitingCount);
        remember();
        return world.removeWaiting(index);
    }

    public int take(int kit) throws IndexOutOfBoundsException, UnsupportedOperationException {
        needKit(kit);
        trial.copyFrom(world);
        int lack = trial.serveItems(kit);
        if (lack != NOTHING) {
            keepLack(lack);
            throw new UnsupportedOperationException("an item cannot be served");
        }
        remember();
        return world.takeItems(kit);
    }

    public int possible(int kit) throws IndexOutOfBoundsException {
        needKit(kit);
        trial.copyFrom(world);
        int times = 0;
        while (times < MAX_POSSIBLE && trial.serveItems(kit) == NOTHING) {
            times++;
        }
        return times;
    }

    public int lacking(int kit) throws IndexOutOfBoundsException {
        needKit(kit);
        trial.copyFrom(world);
        return trial.serveItems(kit);
    }

    // ---- returns, repairs and orders

    public int giveBack(int part, int quantity, boolean isGood)
            throws IndexOutOfBoundsException, IllegalArgumentException {
        needPart(part);
        needRange(quantity, 1, MAX_PIECES);
        remember();
        return world.takeBack(part, quantity, isGood);
    }

    public int send(int part, int quantity) throws IndexOutOfBoundsException,
            IllegalArgumentException, UnsupportedOperationException, IllegalStateException {
        needPart(part);
        needRange(quantity, 1, MAX_PIECES);
        int obstacle = world.obstacleToSending(part, quantity);
        if (obstacle != NO_REASON) {
            lastReason = obstacle;
        }
        if (obstacle == NOT_SO_MANY_BROKEN) {
            throw new UnsupportedOperationException("there are not so many broken pieces");
        }
        if (obstacle == TOO_MANY) {
            throw new IllegalStateException("12 repairs are under way");
        }
        remember();
        return world.sendBroken(part, quantity);
    }

    public int repair(int index, int what) throws IndexOutOfBoundsException, IllegalArgumentException {
        needIndex(index, world.repairs.size);
        needRange(what, 0, 2);
        return world.repairs.batches[index].number(what);
    }

    public int order(int index, int what) throws IndexOutOfBoundsException, IllegalArgumentException {
        needIndex(index, world.orders.size);
        needRange(what, 0, 2);
        return world.orders.batches[index].number(what);
    }

    public int advance(int days) throws IllegalArgumentException {
        needRange(days, 1, MAX_DAYS);
        remember();
        return world.passDays(days);
    }

    public int wanted(int part) throws IndexOutOfBoundsException {
        needPart(part);
        return world.quantityToOrder(part);
    }

    public int stockAfter(int part, int days)
            throws IndexOutOfBoundsException, IllegalArgumentException {
        needPart(part);
        needRange(days, 0, MAX_DAYS);
        trial.copyFrom(world);
        trial.passDays(days);
        return trial.parts[part].stock;
    }

    // ---- movements and service

    public int movement(int part, int movement)
            throws IndexOutOfBoundsException, IllegalArgumentException {
        needPart(part);
        needRange(movement, 0, MOVEMENTS - 1);
        return world.parts[part].movements[movement];
    }

    public int audit() {
        int wrong = 0;
        for (int i = 0; i < world.partCount; i++) {
            if (!world.parts[i].addsUp(world.repairs.piecesOf(i))) {
                wrong++;
            }
        }
        return wrong;
    }

    public float service(int part) throws IndexOutOfBoundsException, ArithmeticException {
        needPart(part);
        if (world.parts[part].requested == 0) {
            throw new ArithmeticException("no pieces of the part were requested");
        }
        return world.parts[part].share();
    }

    public int serviceBits(int part) throws IndexOutOfBoundsException, ArithmeticException {
        return bitsOf(service(part));
    }

    public int weakest() throws NoSuchElementException {
        int least = world.weakestPart();
        if (least == NOTHING) {
            throw new NoSuchElementException("no pieces were requested");
        }
        return least;
    }

    public double averageService() throws ArithmeticException {
        int shares = world.requestedParts();
        if (shares == 0) {
            throw new ArithmeticException("no pieces were requested");
        }
        return world.sumOfShares() / (double) shares;
    }

    public long averageBits() throws ArithmeticException {
        return longBitsOf(averageService());
    }

    public int reason(int what) throws IllegalArgumentException, NoSuchElementException {
        needRange(what, 0, 2);
        if (lastReason == NO_REASON || what != 0 && lastReason != ITEM_NOT_SERVED) {
            throw new NoSuchElementException("no such reason was kept");
        }
        switch (what) {
            case 0: return lastReason;
            case 1: return reasonPart;
            default: return reasonMissing;
        }
    }

    // ---- samples, texts, history and saving

    public int sample(int shelf, int place, int part)
            throws IndexOutOfBoundsException, UnsupportedOperationException {
        needPlace(shelf, place);
        needPart(part);
        int position = world.positionOf(part);
        if (shelf == 0 && position >= world.parts[part].lower) {
            throw new UnsupportedOperationException("shelf 0 does not hold this part");
        }
        Sample filled = samples[shelf * PLACES + place];
        filled.isFilled = true;
        filled.part = part;
        filled.stock = world.parts[part].stock;
        filled.position = position;
        filled.day = world.day;
        return filledPlaces(shelf);
    }

    public int sampled(int shelf, int place, int what)
            throws IndexOutOfBoundsException, IllegalArgumentException, NoSuchElementException {
        needPlace(shelf, place);
        needRange(what, 0, 3);
        Sample asked = samples[shelf * PLACES + place];
        if (!asked.isFilled) {
            throw new NoSuchElementException("the place is empty");
        }
        switch (what) {
            case 0: return asked.part;
            case 1: return asked.stock;
            case 2: return asked.position;
            default: return asked.day;
        }
    }

    public int append(char character) throws IllegalArgumentException, IllegalStateException {
        needRange(character, 32, 126);
        if (text.length >= MAX_CHARACTERS) {
            throw new IllegalStateException("the input has 60 characters");
        }
        text.characters[text.length] = character;
        text.length++;
        return text.length;
    }

    public int read() throws IllegalArgumentException, UnsupportedOperationException {
        int error = text.parseToError();
        text.length = 0;
        if (error != NOTHING) {
            lastError = error;
            throw new IllegalArgumentException("the input is no text");
        }
        trial.copyFrom(world);
        for (int i = 0; i < text.entryCount; i++) {
            if (!tryEntry(text.kinds[i], text.numbers[i], text.quantities[i])) {
                lastRefused = i;
                throw new UnsupportedOperationException("an entry is refused");
            }
        }
        remember();
        world.copyFrom(trial);
        return text.entryCount;
    }

    public int errorPosition() throws NoSuchElementException {
        if (lastError == NOTHING) {
            throw new NoSuchElementException("no error position was kept");
        }
        return lastError;
    }

    public int refused() throws NoSuchElementException {
        if (lastRefused == NOTHING) {
            throw new NoSuchElementException("no refused entry was kept");
        }
        return lastRefused;
    }

    public int undo() throws NoSuchElementException {
        if (remembered == 0) {
            throw new NoSuchElementException("no change is remembered");
        }
        remembered--;
        world.copyFrom(history[(oldest + remembered) % MAX_CHANGES]);
        return remembered;
    }

    public int save() {
        saved.copyFrom(world);
        isSaved = true;
        return saved.partCount;
    }

    public int restore() throws IllegalStateException {
        if (!isSaved) {
            throw new IllegalStateException("nothing was saved");
        }
        world.copyFrom(saved);
        forgetChanges();
        return world.partCount;
    }

    // ---- what the arguments must be

    private void needPart(int part) {
        if (!world.hasPart(part)) {
            throw new IndexOutOfBoundsException("there is no such part");
        }
    }

    private void needKit(int kit) {
        if (!world.hasKit(kit)) {
            throw new IndexOutOfBoundsException("there is no such kit");
        }
    }

    private static void needPlace(int shelf, int place) {
        needIndex(shelf, SHELVES);
        needIndex(place, PLACES);
    }

    private static void needIndex(int index, int size) {
        if (index < 0 || index >= size) {
            throw new IndexOutOfBoundsException("there is nothing with this index");
        }
    }

    private static void needRange(int number, int least, int greatest) {
        if (number < least || number > greatest) {
            throw new IllegalArgumentException("a number is out of range");
        }
    }

    // ---- history, reasons and shelves

    private void remember() {
        history[(oldest + remembered) % MAX_CHANGES].copyFrom(world);
        if (remembered < MAX_CHANGES) {
            remembered++;
        } else {
            oldest = (oldest + 1) % MAX_CHANGES;
        }
    }

    private void forgetChanges() {
        oldest = 0;
        remembered = 0;
    }

    private void keepLack(int lack) {
        lastReason = ITEM_NOT_SERVED;
        reasonPart = lack / 100;
        reasonMissing = lack % 100;
    }

    private int filledPlaces(int shelf) {
        int filled = 0;
        for (int i = 0; i < PLACES; i++) {
            if (samples[shelf * PLACES + i].isFilled) {
                filled++;
            }
        }
        return filled;
    }

    // ---- entries of a text, tried on the trial world

    private boolean tryEntry(int kind, int number, int quantity) {
        switch (kind) {
            case 'd': trial.passDays(number); return true;
            case 'k': return trial.hasKit(number) && tryTaking(number);
            default: return trial.hasPart(number) && tryPieces(kind, number, quantity);
        }
    }

    private boolean tryTaking(int kit) {
        int lack = trial.serveItems(kit);
        if (lack != NOTHING) {
            keepLack(lack);
        }
        return lack == NOTHING;
    }

    private boolean tryPieces(int kind, int part, int quantity) {
        int obstacle = NO_REASON;
        if (kind == 'r') {
            obstacle = trial.obstacleToRequest(part, quantity);
        } else if (kind == 's') {
            obstacle = trial.obstacleToSending(part, quantity);
        }
        if (obstacle != NO_REASON) {
            lastReason = obstacle;
            return false;
        }
        switch (kind) {
            case 'r': trial.makeRequest(part, quantity); return true;
            case 's': trial.sendBroken(part, quantity); return true;
            default: trial.takeBack(part, quantity, kind == 'g'); return true;
        }
    }

    // ---- bits of shares, which are 0 or from some millionth to 1

    private static int bitsOf(float share) {
        if (share <= 0f) {
            return 0;
        }
        float scaled = share;
        int exponent = 127;
        while (scaled < 1f && exponent > 1) {
            scaled = scaled * 2f;
            exponent--;
        }
        int fraction = (int) ((scaled - 1f) * 8388608f);
        return (exponent << 23) | fraction;
    }

    private static long longBitsOf(double share) {
        if (share <= 0.0) {
            return 0L;
        }
        double scaled = share;
        long exponent = 1023L;
        while (scaled < 1.0 && exponent > 1L) {
            scaled = scaled * 2.0;
            exponent--;
        }
        long fraction = (long) ((scaled - 1.0) * 4503599627370496.0);
        return (exponent << 52) | fraction;
    }

    /** All that the history remembers: parts, kits, requests, repairs, orders and the day. */
    private static final class World {
        final Part[] parts = new Part[MAX_PARTS];
        int partCount;
        final Kit[] kits = new Kit[MAX_KITS];
        int kitCount;
        final WaitingRequest[] waiting = new WaitingRequest[MAX_WAITING];
        int waitingCount;
        int requestCount;
        final BatchList repairs = new BatchList();
        final BatchList orders = new BatchList();
        int day;

        World() {
            for (int i = 0; i < MAX_PARTS; i++) {
                parts[i] = new Part();
            }
            for (int i = 0; i < MAX_KITS; i++) {
                kits[i] = new Kit();
            }
            for (int i = 0; i < MAX_WAITING; i++) {
                waiting[i] = new WaitingRequest();
            }
        }

        void makeEmpty() {
            partCount = 0;
            kitCount = 0;
            waitingCount = 0;
            requestCount = 0;
            repairs.size = 0;
            orders.size = 0;
            day = 0;
        }

        void copyFrom(World other) {
            partCount = other.partCount;
            for (int i = 0; i < partCount; i++) {
                parts[i].copyFrom(other.parts[i]);
            }
            kitCount = other.kitCount;
            for (int i = 0; i < kitCount; i++) {
                kits[i].copyFrom(other.kits[i]);
            }
            waitingCount = other.waitingCount;
            for (int i = 0; i < waitingCount; i++) {
                waiting[i].copyFrom(other.waiting[i]);
            }
            requestCount = other.requestCount;
            repairs.copyFrom(other.repairs);
            orders.copyFrom(other.orders);
            day = other.day;
        }

        boolean hasPart(int part) {
            return part >= 0 && part < partCount;
        }

        boolean hasKit(int kit) {
            return kit >= 0 && kit < kitCount;
        }

        int addItem(int kit, int part, int quantity) {
            if (kit == kitCount) {
                kits[kit].itemCount = 0;
                kitCount++;
            }
            kits[kit].addLast(part, quantity);
            return kits[kit].itemCount;
        }

        int positionOf(int part) {
            Part asked = parts[part];
            return asked.stock + orders.piecesOf(part)
                    + repairs.expectedOf(part, asked.percent) - missingOf(part);
        }

        int missingOf(int part) {
            int missing = 0;
            for (int i = 0; i < waitingCount; i++) {
                if (waiting[i].part == part) {
                    missing += waiting[i].missing;
                }
            }
            return missing;
        }

        int allMissing() {
            int missing = 0;
            for (int i = 0; i < waitingCount; i++) {
                missing += waiting[i].missing;
            }
            return missing;
        }

        int quantityToOrder(int part) {
            int position = positionOf(part);
            return position < parts[part].lower ? parts[part].upper - position : 0;
        }

        int stockInReach(int part) {
            Part asked = parts[part];
            int stock = asked.stock;
            for (int i = 0; i < asked.substituteCount; i++) {
                stock += parts[asked.substitutes[i]].stock;
            }
            return stock;
        }

        int serve(int part, int quantity) {
            Part asked = parts[part];
            int rest = quantity - asked.issue(quantity);
            for (int i = 0; i < asked.substituteCount; i++) {
                rest -= parts[asked.substitutes[i]].issue(rest);
            }
            return quantity - rest;
        }

        int obstacleToRequest(int part, int quantity) {
            boolean wouldWait = stockInReach(part) < quantity;
            return wouldWait && waitingCount >= MAX_WAITING ? TOO_MANY : NO_REASON;
        }

        int makeRequest(int part, int quantity) {
            int served = serve(part, quantity);
            parts[part].requested += quantity;
            parts[part].servedAtOnce += served;
            if (served < quantity && waitingCount < MAX_WAITING) {
                WaitingRequest added = waiting[waitingCount];
                added.number = requestCount;
                added.part = part;
                added.quantity = quantity;
                added.missing = quantity - served;
                added.day = day;
                waitingCount++;
            }
            requestCount++;
            return served;
        }

        int removeWaiting(int index) {
            WaitingRequest removed = waiting[index];
            for (int i = index + 1; i < waitingCount; i++) {
                waiting[i - 1] = waiting[i];
            }
            waitingCount--;
            // the row is used again by the next request that waits
            waiting[waitingCount] = removed;
            return removed.missing;
        }

        // the answer is how many requests wait no longer, as giveBack tells it
        int comeIn(int part, int pieces) {
            parts[part].stock += pieces;
            return serveWaiting();
        }

        int serveWaiting() {
            int still = 0;
            for (int i = 0; i < waitingCount; i++) {
                WaitingRequest served = waiting[i];
                served.missing -= serve(served.part, served.missing);
                if (served.missing > 0) {
                    // rows change places, so that none is lost
                    waiting[i] = waiting[still];
                    waiting[still] = served;
                    still++;
                }
            }
            int done = waitingCount - still;
            waitingCount = still;
            return done;
        }

        /**
         * The answer is NOTHING if all items are served, or what lacking tells; an item has at
         * most 9 pieces, so those that are missing never reach into the hundreds. What was served
         * before stays taken, so only a world that is thrown away may be asked this.
         */
        int serveItems(int kit) {
            Kit asked = kits[kit];
            for (int i = 0; i < asked.itemCount; i++) {
                int missing = asked.quantities[i] - serve(asked.parts[i], asked.quantities[i]);
                if (missing > 0) {
                    return 100 * asked.parts[i] + missing;
                }
            }
            return NOTHING;
        }

        // whether the kit can be taken was tried before, so that all its items are served here
        int takeItems(int kit) {
            Kit asked = kits[kit];
            int ofSubstitutes = 0;
            for (int i = 0; i < asked.itemCount; i++) {
                int own = parts[asked.parts[i]].stock;
                int served = serve(asked.parts[i], asked.quantities[i]);
                ofSubstitutes += served > own ? served - own : 0;
            }
            return ofSubstitutes;
        }

        int takeBack(int part, int quantity, boolean isGood) {
            Part returned = parts[part];
            if (isGood) {
                returned.movements[RETURNED_GOOD] += quantity;
                return comeIn(part, quantity);
            }
            returned.movements[RETURNED_BROKEN] += quantity;
            returned.broken += quantity;
            return 0;
        }

        int obstacleToSending(int part, int quantity) {
            if (parts[part].broken < quantity) {
                return NOT_SO_MANY_BROKEN;
            }
            return repairs.isFull() ? TOO_MANY : NO_REASON;
        }

        int sendBroken(int part, int quantity) {
            Part sent = parts[part];
            int endDay = day + sent.repairLead;
            sent.broken -= quantity;
            sent.movements[SENT] += quantity;
            repairs.addLast(part, quantity, endDay);
            return endDay;
        }

        int passDays(int days) {
            int pieces = 0;
            for (int i = 0; i < days; i++) {
                day++;
                pieces += endRepairs();
                pieces += receiveOrders();
                makeOrders();
            }
            return pieces;
        }

        int endRepairs() {
            int pieces = 0;
            for (int i = 0; i < repairs.size; i++) {
                Batch ended = repairs.batches[i];
                if (ended.endDay <= day) {
                    int repaired = parts[ended.part].endRepair(ended.quantity);
                    if (repaired > 0) {
                        comeIn(ended.part, repaired);
                    }
                    pieces += repaired;
                }
            }
            repairs.dropUntil(day);
            return pieces;
        }

        int receiveOrders() {
            int pieces = 0;
            for (int i = 0; i < orders.size; i++) {
                Batch arrived = orders.batches[i];
                if (arrived.endDay <= day) {
                    parts[arrived.part].movements[RECEIVED] += arrived.quantity;
                    comeIn(arrived.part, arrived.quantity);
                    pieces += arrived.quantity;
                }
            }
            orders.dropUntil(day);
            return pieces;
        }

        void makeOrders() {
            for (int i = 0; i < partCount; i++) {
                int quantity = quantityToOrder(i);
                if (quantity > 0 && !orders.isFull()) {
                    orders.addLast(i, quantity, day + parts[i].orderLead);
                }
            }
        }

        int requestedParts() {
            int requested = 0;
            for (int i = 0; i < partCount; i++) {
                if (parts[i].requested > 0) {
                    requested++;
                }
            }
            return requested;
        }

        double sumOfShares() {
            double sum = 0.0;
            for (int i = 0; i < partCount; i++) {
                if (parts[i].requested > 0) {
                    sum += (double) parts[i].share();
                }
            }
            return sum;
        }

        int weakestPart() {
            int weakest = NOTHING;
            float least = 0f;
            for (int i = 0; i < partCount; i++) {
                if (parts[i].requested > 0) {
                    float share = parts[i].share();
                    if (weakest == NOTHING || share < least) {
                        weakest = i;
                        least = share;
                    }
                }
            }
            return weakest;
        }
    }

    private static final class Part {
        int stock;
        int broken;
        int lower;
        int upper;
        int orderLead;
        int repairLead;
        int percent;
        int hundredths;
        int requested;
        int servedAtOnce;
        int substituteCount;
        final int[] substitutes = new int[MAX_SUBSTITUTES];
        final int[] movements = new int[MOVEMENTS];

        void begin(int firstStock, int leadOfOrders, int leadOfRepairs, int yieldPercent) {
            stock = firstStock;
            broken = 0;
            lower = 0;
            upper = 0;
            orderLead = leadOfOrders;
            repairLead = leadOfRepairs;
            percent = yieldPercent;
            hundredths = 0;
            requested = 0;
            servedAtOnce = 0;
            substituteCount = 0;
            for (int i = 0; i < MOVEMENTS; i++) {
                movements[i] = 0;
            }
            movements[FIRST_STOCK] = firstStock;
        }

        void copyFrom(Part other) {
            stock = other.stock;
            broken = other.broken;
            lower = other.lower;
            upper = other.upper;
            orderLead = other.orderLead;
            repairLead = other.repairLead;
            percent = other.percent;
            hundredths = other.hundredths;
            requested = other.requested;
            servedAtOnce = other.servedAtOnce;
            substituteCount = other.substituteCount;
            System.arraycopy(other.substitutes, 0, substitutes, 0, MAX_SUBSTITUTES);
            System.arraycopy(other.movements, 0, movements, 0, MOVEMENTS);
        }

        int indexOf(int other) {
            for (int i = 0; i < substituteCount; i++) {
                if (substitutes[i] == other) {
                    return i;
                }
            }
            return NOTHING;
        }

        void addLast(int other) {
            if (substituteCount < MAX_SUBSTITUTES) {
                substitutes[substituteCount] = other;
                substituteCount++;
            }
        }

        void removeAt(int index) {
            for (int i = index + 1; i < substituteCount; i++) {
                substitutes[i - 1] = substitutes[i];
            }
            substituteCount--;
        }

        int issue(int wanted) {
            int pieces = stock < wanted ? stock : wanted;
            stock -= pieces;
            movements[ISSUED] += pieces;
            return pieces;
        }

        // the repaired pieces are not put into the stock here: they serve waiting requests there
        int endRepair(int quantity) {
            hundredths += quantity * percent;
            int repaired = hundredths / 100;
            if (repaired > quantity) {
                repaired = quantity;
            }
            hundredths -= 100 * repaired;
            movements[REPAIRED] += repaired;
            movements[SCRAPPED] += quantity - repaired;
            return repaired;
        }

        boolean addsUp(int inRepair) {
            int cameIn = movements[FIRST_STOCK] + movements[RECEIVED]
                    + movements[RETURNED_GOOD] + movements[REPAIRED];
            int atRepair = movements[SENT] - movements[REPAIRED] - movements[SCRAPPED];
            return cameIn - movements[ISSUED] == stock
                    && movements[RETURNED_BROKEN] - movements[SENT] == broken
                    && atRepair == inRepair;
        }

        float share() {
            return requested > 0 ? (float) servedAtOnce / (float) requested : 0f;
        }
    }

    private static final class Kit {
        int itemCount;
        final int[] parts = new int[MAX_ITEMS];
        final int[] quantities = new int[MAX_ITEMS];

        void copyFrom(Kit other) {
            itemCount = other.itemCount;
            System.arraycopy(other.parts, 0, parts, 0, MAX_ITEMS);
            System.arraycopy(other.quantities, 0, quantities, 0, MAX_ITEMS);
        }

        boolean canHold(int part) {
            for (int i = 0; i < itemCount; i++) {
                if (parts[i] == part) {
                    return false;
                }
            }
            return itemCount < MAX_ITEMS;
        }

        void addLast(int part, int quantity) {
            if (itemCount < MAX_ITEMS) {
                parts[itemCount] = part;
                quantities[itemCount] = quantity;
                itemCount++;
            }
        }
    }

    private static final class WaitingRequest {
        int number;
        int part;
        int quantity;
        int missing;
        int day;

        void copyFrom(WaitingRequest other) {
            number = other.number;
            part = other.part;
            quantity = other.quantity;
            missing = other.missing;
            day = other.day;
        }
    }

    // repairs and orders under way have the same numbers, so one class holds both
    private static final class Batch {
        int part;
        int quantity;
        int endDay;

        void become(int ofPart, int pieces, int lastDay) {
            part = ofPart;
            quantity = pieces;
            endDay = lastDay;
        }

        int number(int what) {
            switch (what) {
                case 0: return part;
                case 1: return quantity;
                default: return endDay;
            }
        }
    }

    private static final class BatchList {
        final Batch[] batches = new Batch[MAX_UNDER_WAY];
        int size;

        BatchList() {
            for (int i = 0; i < MAX_UNDER_WAY; i++) {
                batches[i] = new Batch();
            }
        }

        void copyFrom(BatchList other) {
            size = other.size;
            for (int i = 0; i < size; i++) {
                Batch copied = other.batches[i];
                batches[i].become(copied.part, copied.quantity, copied.endDay);
            }
        }

        boolean isFull() {
            return size >= MAX_UNDER_WAY;
        }

        void addLast(int part, int quantity, int endDay) {
            if (size < MAX_UNDER_WAY) {
                batches[size].become(part, quantity, endDay);
                size++;
            }
        }

        void dropUntil(int day) {
            int still = 0;
            for (int i = 0; i < size; i++) {
                Batch looked = batches[i];
                if (looked.endDay > day) {
                    // rows change places, so that none is lost
                    batches[i] = batches[still];
                    batches[still] = looked;
                    still++;
                }
            }
            size = still;
        }

        int piecesOf(int part) {
            int pieces = 0;
            for (int i = 0; i < size; i++) {
                if (batches[i].part == part) {
                    pieces += batches[i].quantity;
                }
            }
            return pieces;
        }

        // each repair is rounded down for itself, since that is how a position counts it
        int expectedOf(int part, int percent) {
            int pieces = 0;
            for (int i = 0; i < size; i++) {
                if (batches[i].part == part) {
                    pieces += batches[i].quantity * percent / 100;
                }
            }
            return pieces;
        }
    }

    private static final class Sample {
        boolean isFilled;
        int part;
        int stock;
        int position;
        int day;
    }

    private static final class Text {
        // what must come next
        private static final int ENTRY = 0;
        private static final int PART = 1;
        private static final int ASTERISK = 2;
        private static final int FIRST_DIGIT = 3;
        private static final int SECOND_DIGIT = 4;
        private static final int THIRD_DIGIT = 5;
        private static final int KIT = 6;
        private static final int DAYS = 7;
        private static final int SEMICOLON = 8;

        final char[] characters = new char[MAX_CHARACTERS];
        int length;
        final int[] kinds = new int[MAX_ENTRIES];
        final int[] numbers = new int[MAX_ENTRIES];
        final int[] quantities = new int[MAX_ENTRIES];
        int entryCount;

        int parseToError() {
            entryCount = 0;
            int expected = ENTRY;
            for (int i = 0; i < length; i++) {
                int next = nextAfter(expected, characters[i]);
                if (next == NOTHING) {
                    return i;
                }
                note(expected, characters[i]);
                expected = next;
            }
            return length > 0 && expected == ENTRY ? NOTHING : length;
        }

        // whatever is expected can still come, so no text goes on only where this says NOTHING
        private static int nextAfter(int expected, char found) {
            switch (expected) {
                case ENTRY: return nextAfterKind(found);
                case PART: return isBetween(found, '0', '7') ? ASTERISK : NOTHING;
                case ASTERISK: return found == '*' ? FIRST_DIGIT : NOTHING;
                case FIRST_DIGIT: return isBetween(found, '1', '9') ? SECOND_DIGIT : NOTHING;
                case SECOND_DIGIT: return nextAfterDigit(found, THIRD_DIGIT);
                case THIRD_DIGIT: return nextAfterDigit(found, SEMICOLON);
                case KIT: return isBetween(found, '0', '3') ? SEMICOLON : NOTHING;
                case DAYS: return isBetween(found, '1', '9') ? SEMICOLON : NOTHING;
                default: return found == ';' ? ENTRY : NOTHING;
            }
        }

        private static int nextAfterKind(char found) {
            switch (found) {
                case 'r': return PART;
                case 'g': return PART;
                case 'b': return PART;
                case 's': return PART;
                case 'k': return KIT;
                case 'd': return DAYS;
                default: return NOTHING;
            }
        }

        private static int nextAfterDigit(char found, int afterDigit) {
            if (found == ';') {
                return ENTRY;
            }
            return isBetween(found, '0', '9') ? afterDigit : NOTHING;
        }

        private static boolean isBetween(char found, char least, char greatest) {
            return found >= least && found <= greatest;
        }

        private void note(int expected, char found) {
            if (expected == ENTRY && entryCount < MAX_ENTRIES) {
                kinds[entryCount] = found;
                quantities[entryCount] = 0;
                entryCount++;
                return;
            }
            int entry = entryCount - 1;
            if (entry < 0 || !isBetween(found, '0', '9')) {
                return;
            }
            int digit = found - '0';
            if (expected == PART || expected == KIT || expected == DAYS) {
                numbers[entry] = digit;
            } else {
                quantities[entry] = 10 * quantities[entry] + digit;
            }
        }
    }
}
