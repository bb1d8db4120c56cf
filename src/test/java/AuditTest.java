import java.lang.reflect.Array;
import java.lang.reflect.Field;

/**
 * Promise 30: no call can make movements that do not add up, so this reaches into the program,
 * breaks one number at a time, and wants audit to tell it.
 */
final class AuditTest {
    public static void main(String[] args) throws Exception {
        String[] numbers = {"stock", "broken"};
        for (String number : numbers) {
            SparePlanner x = filled();
            Check.due("audit", x.audit(), 0);
            add(partOf(x, 1), number, 1);
            Check.due("audit with a wrong " + number, x.audit(), 1);
            add(partOf(x, 0), number, -1);
            Check.due("audit with two of them", x.audit(), 2);
        }
        for (int movement = 0; movement < 8; movement++) {
            SparePlanner x = filled();
            addMovement(partOf(x, 2), movement, 1);
            Check.due("audit with a wrong movement " + movement, x.audit(), 1);
        }
        SparePlanner x = filled();
        addMovement(partOf(x, 0), 5, 1);
        addMovement(partOf(x, 0), 6, -1);
        addMovement(partOf(x, 1), 5, 1);
        addMovement(partOf(x, 1), 7, 1);
        Check.due("audit with a repaired piece that is not in the stock, or was not sent", x.audit(), 2);
        SparePlanner y = filled();
        add(firstRepairOf(y), "quantity", 1);
        Check.due("audit with a wrong repair", y.audit(), 1);
        add(firstRepairOf(y), "quantity", -1);
        Check.due("audit with the right one", y.audit(), 0);
        Check.end("AuditTest");
    }

    /** Three parts with all movements, and one repair under way of each. */
    private static SparePlanner filled() {
        SparePlanner x = new SparePlanner();
        for (int part = 0; part < 3; part++) {
            x.addPart(5, 1, 1, 50);
            x.setBounds(part, 7, 9);
            x.giveBack(part, 9, false);
            x.giveBack(part, 1, true);
            x.send(part, 4);
        }
        x.advance(2);
        for (int part = 0; part < 3; part++) {
            x.send(part, 2);
            x.request(part, 3);
        }
        return x;
    }

    private static Object held(Object holder, String name) throws Exception {
        Field field = holder.getClass().getDeclaredField(name);
        field.setAccessible(true);
        return field.get(holder);
    }

    private static Object partOf(SparePlanner x, int part) throws Exception {
        return Array.get(held(held(x, "world"), "parts"), part);
    }

    private static Object firstRepairOf(SparePlanner x) throws Exception {
        return Array.get(held(held(held(x, "world"), "repairs"), "batches"), 0);
    }

    private static void add(Object holder, String name, int more) throws Exception {
        Field field = holder.getClass().getDeclaredField(name);
        field.setAccessible(true);
        field.setInt(holder, field.getInt(holder) + more);
    }

    private static void addMovement(Object part, int movement, int more) throws Exception {
        int[] movements = (int[]) held(part, "movements");
        movements[movement] += more;
    }
}
