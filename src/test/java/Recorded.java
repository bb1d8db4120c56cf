import java.util.ArrayList;
import java.util.List;

/**
 * A planner that keeps what it is asked, so that it can be made again: the whole state is asked of a
 * new planner with the same calls behind it, since an object is used for at most 512 calls.
 */
final class Recorded {
    private interface Deed<T> {
        T on(SparePlanner x);
    }

    private final SparePlanner planner = new SparePlanner();
    private final List<Deed<?>> deeds = new ArrayList<>();

    /** A new planner on which all calls were made that this one got, those that it refused, too. */
    SparePlanner again() {
        SparePlanner x = new SparePlanner();
        for (Deed<?> deed : deeds) {
            Check.outcome(() -> deed.on(x));
        }
        return x;
    }

    private <T> T told(Deed<T> deed) {
        deeds.add(deed);
        return deed.on(planner);
    }

    // ---- the calls of the face

    int clear() {
        return told(SparePlanner::clear);
    }

    int addPart(int stock, int orderLead, int repairLead, int percent) {
        return told(x -> x.addPart(stock, orderLead, repairLead, percent));
    }

    int setBounds(int part, int lower, int upper) {
        return told(x -> x.setBounds(part, lower, upper));
    }

    int setYield(int part, int percent) {
        return told(x -> x.setYield(part, percent));
    }

    int addSubstitute(int part, int other) {
        return told(x -> x.addSubstitute(part, other));
    }

    int removeSubstitute(int part, int other) {
        return told(x -> x.removeSubstitute(part, other));
    }

    int addKit(int kit, int part, int quantity) {
        return told(x -> x.addKit(kit, part, quantity));
    }

    int count(int what) {
        return told(x -> x.count(what));
    }

    int part(int part, int what) {
        return told(x -> x.part(part, what));
    }

    int substitute(int part, int index) {
        return told(x -> x.substitute(part, index));
    }

    int relation(int one, int other) {
        return told(x -> x.relation(one, other));
    }

    int item(int kit, int index, boolean isPart) {
        return told(x -> x.item(kit, index, isPart));
    }

    int request(int part, int quantity) {
        return told(x -> x.request(part, quantity));
    }

    int available(int part) {
        return told(x -> x.available(part));
    }

    int taken(int part, int other, int quantity) {
        return told(x -> x.taken(part, other, quantity));
    }

    int waiting(int index, int what) {
        return told(x -> x.waiting(index, what));
    }

    int cancel(int index) {
        return told(x -> x.cancel(index));
    }

    int take(int kit) {
        return told(x -> x.take(kit));
    }

    int possible(int kit) {
        return told(x -> x.possible(kit));
    }

    int lacking(int kit) {
        return told(x -> x.lacking(kit));
    }

    int giveBack(int part, int quantity, boolean isGood) {
        return told(x -> x.giveBack(part, quantity, isGood));
    }

    int send(int part, int quantity) {
        return told(x -> x.send(part, quantity));
    }

    int repair(int index, int what) {
        return told(x -> x.repair(index, what));
    }

    int order(int index, int what) {
        return told(x -> x.order(index, what));
    }

    int advance(int days) {
        return told(x -> x.advance(days));
    }

    int wanted(int part) {
        return told(x -> x.wanted(part));
    }

    int stockAfter(int part, int days) {
        return told(x -> x.stockAfter(part, days));
    }

    int movement(int part, int movement) {
        return told(x -> x.movement(part, movement));
    }

    int audit() {
        return told(SparePlanner::audit);
    }

    float service(int part) {
        return told(x -> x.service(part));
    }

    int serviceBits(int part) {
        return told(x -> x.serviceBits(part));
    }

    int weakest() {
        return told(SparePlanner::weakest);
    }

    double averageService() {
        return told(SparePlanner::averageService);
    }

    long averageBits() {
        return told(SparePlanner::averageBits);
    }

    int reason(int what) {
        return told(x -> x.reason(what));
    }

    int sample(int shelf, int place, int part) {
        return told(x -> x.sample(shelf, place, part));
    }

    int sampled(int shelf, int place, int what) {
        return told(x -> x.sampled(shelf, place, what));
    }

    int append(char character) {
        return told(x -> x.append(character));
    }

    int read() {
        return told(SparePlanner::read);
    }

    int errorPosition() {
        return told(SparePlanner::errorPosition);
    }

    int refused() {
        return told(SparePlanner::refused);
    }

    int undo() {
        return told(SparePlanner::undo);
    }

    int save() {
        return told(SparePlanner::save);
    }

    int restore() {
        return told(SparePlanner::restore);
    }
}
