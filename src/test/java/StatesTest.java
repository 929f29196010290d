/** Promises 24 to 26: undo and saved states. */
public final class StatesTest {
    /** The texts of a week with all there is: doubts, a ban, kept and thrown plates. */
    private static final String[] WEEK = {"p;p;p;v0+9;o0a;o1b;o2c;o0b+1;o0a+2;o1a+4", "k;c0;x;o2a;k;c0;x", "o2b;k;x;k"};

    public static void main(String[] args) {
        undoEachChange();
        allPrices();
        undoStaysAndBans();
        undoPaid();
        undoDepth();
        undoRecords();
        undoLeavesPadAndSlots();
        undoAll();
        save();
        restore();
        restoreIsAChange();
        slotsAreApart();
        historyRunsOn();
        Due.end();
    }

    private static CanteenPlates week() {
        CanteenPlates x = Look.after(WEEK);
        x.set(CanteenPlates.BAN, 2);
        x.price(2, 1, 3);
        return x;
    }

    /** Carries one change out; each has its own number. */
    private static int change(CanteenPlates x, int which) {
        switch (which) {
            case 0:
                return x.set(CanteenPlates.KEEP, 1);
            case 1:
                return x.price(3, 2, 3);
            case 2:
                return x.person();
            case 3:
                return x.vouchers(2, 3);
            case 4:
                return x.order(0, 4, 2);
            case 5:
                return x.callOff(1, 1);
            case 6:
                return x.close();
            case 7:
                return x.buy(0, 0);
            case 8:
                return Look.carryOut(x, "x;p;o3c;k;c3");
            case 9:
                return x.restore(1);
            default:
                return -1;
        }
    }

    private static void undoEachChange() {
        String before = Look.atState(week());
        for (int which = 0; which < 10; which++) {
            CanteenPlates x = week();
            x.save(1);
            CanteenPlates y = week();
            y.save(1);
            Due.is("24: change " + which + " is no error", Math.min(0, change(x, which)), 0);
            change(y, which);
            boolean same = Look.atState(y).equals(before);
            Due.is("24: change " + which + " changes something", same ? 1 : 0, which == 9 ? 1 : 0);
            Due.is("24: count(15)", x.count(15), 6);
            Due.is("24: undo() of change " + which, x.undo(), 5);
            Due.same("24: the state behind undo() of change " + which, Look.atState(x), before);
        }
        CanteenPlates x = Look.after("p;o0a");
        x.cook();
        x.come(0);
        x.undo();
        Due.same("24: undo() of come()", Look.atState(x), Look.atState(Look.after("p;o0a;k")));
        x.undo();
        Due.same("24: undo() of cook()", Look.atState(x), Look.atState(Look.after("p;o0a")));
    }

    /** Prices of other weekdays show only in what price() returns. */
    private static void allPrices() {
        for (int weekday = 0; weekday < 5; weekday++) {
            for (int dish = 0; dish < 3; dish++) {
                CanteenPlates x = new CanteenPlates();
                x.price(weekday, dish, 2);
                x.save(0);
                x.price(weekday, dish, 3);
                x.undo();
                Due.is("24: price(" + weekday + ", " + dish + ", 1) behind undo()", x.price(weekday, dish, 1), 2);
                x.restore(0);
                Due.is("26: price(" + weekday + ", " + dish + ", 1) restored", x.price(weekday, dish, 1), 2);
            }
        }
    }

    private static void undoStaysAndBans() {
        CanteenPlates x = Look.after("p;o0a;k;x;o0a;k;x;o0a;k");
        String before = Look.atState(x);
        x.save(0);
        x.close();
        Due.is("24: of(0, 4)", x.of(0, 4), 8);
        x.undo();
        Due.same("24: the state behind undo() of a ban", Look.atState(x), before);
        x.come(0);
        x.undo();
        Due.is("24: of(0, 3) behind undo() of come()", x.of(0, 3), 2);
        x.close();
        x.restore(0);
        Due.same("26: the state ahead of the ban", Look.atState(x), before);
    }

    /** What was paid shows only in what is given back. */
    private static void undoPaid() {
        CanteenPlates x = new CanteenPlates();
        x.price(1, 0, 3);
        Look.carryOut(x, "p;o0a+1");
        x.save(0);
        x.callOff(0, 1);
        x.order(0, 1, 1);
        x.undo();
        x.undo();
        Due.is("24: callOff(0, 1)", x.callOff(0, 1), 5);
        x.order(0, 1, 1);
        x.restore(0);
        Due.is("26: callOff(0, 1)", x.callOff(0, 1), 5);
    }

    private static void undoDepth() {
        CanteenPlates x = new CanteenPlates();
        for (int change = 1; change <= 9; change++) {
            x.person();
            Due.is("24: count(15)", x.count(15), Math.min(6, change));
        }
        for (int left = 5; left >= 0; left--) {
            Due.is("24: undo()", x.undo(), left);
            Due.is("24: count(1)", x.count(1), left + 3);
            Due.is("24: count(15)", x.count(15), left);
        }
        Due.is("24: undo()", x.undo(), Look.NOT_POSSIBLE);
        Due.is("24: count(1)", x.count(1), 3);
        Due.is("24: person()", x.person(), 3);
        Due.is("24: undo()", x.undo(), 0);
        Due.is("24: undo() is not undone", x.undo(), Look.NOT_POSSIBLE);
    }

    private static void undoRecords() {
        CanteenPlates x = Look.after("p");
        Due.is("24: set() to the same", x.set(0, 1), 1);
        Due.is("24: price() to the same", x.price(0, 0, 1), 1);
        x.vouchers(0, 30);
        x.vouchers(0, 30);
        Due.is("24: count(15), also if nothing is different", x.count(15), 5);
        Due.is("24: undo()", x.undo(), 4);
        Due.is("24: of(0, 0)", x.of(0, 0), 30);
        Due.is("24: undo()", x.undo(), 3);
        Due.is("24: of(0, 0)", x.of(0, 0), 5);
        Look.write(x, "k;x");
        x.fault();
        x.wipe();
        x.save(0);
        x.unsurest(0);
        Due.is("24: count(15), these are no changes", x.count(15), 3);
        // A change that fails when the history is full must not spoil its oldest state.
        CanteenPlates y = new CanteenPlates();
        for (int change = 0; change < 7; change++) {
            y.person();
            y.order(0, 5, 0);
            y.restore(1);
        }
        y.carryOut();
        y.set(9, 9);
        for (int left = 5; left >= 0; left--) {
            y.undo();
        }
        Due.is("24: count(1), the oldest state", y.count(1), 1);
    }

    private static void undoLeavesPadAndSlots() {
        CanteenPlates x = Look.after("p");
        x.person();
        x.save(0);
        x.save(1);
        x.person();
        x.save(1);
        Look.write(x, "k;x;q");
        Due.is("24: undo()", x.undo(), 2);
        Due.is("24: undo()", x.undo(), 1);
        Due.is("24: count(1)", x.count(1), 1);
        Due.is("24: count(14), the pad stays", x.count(14), 5);
        Due.is("24: fault(), the pad stays", x.fault(), 4);
        Due.is("24: restore(0), the slots stay", x.restore(0), 2);
        Due.is("24: restore(1), the slots stay", x.restore(1), 3);
        x.wipe();
        Look.carryOut(x, "p;p");
        Due.is("24: undo() of a text", x.undo(), 3);
        Due.is("24: count(14), the pad stays empty", x.count(14), 0);
    }

    /** Six changes one after the other, and back. */
    private static void undoAll() {
        int[] order = {4, 3, 7, 8, 1, 2};
        for (int back = 1; back <= order.length; back++) {
            CanteenPlates x = week();
            CanteenPlates twin = week();
            for (int change = 0; change < order.length; change++) {
                Due.is("24: change is no error", Math.min(0, change(x, order[change])), 0);
                if (change < order.length - back) {
                    change(twin, order[change]);
                }
            }
            for (int times = 0; times < back; times++) {
                x.undo();
            }
            Due.same("24: " + back + " times undo()", Look.atState(x), Look.atState(twin));
        }
    }

    private static void save() {
        CanteenPlates x = new CanteenPlates();
        Due.is("25: save(0) of nobody", x.save(0), 0);
        Look.carryOut(x, "p;p");
        Due.is("25: save(1)", x.save(1), 2);
        for (int bad : new int[] {-1, 2, Integer.MIN_VALUE, Integer.MAX_VALUE}) {
            Due.is("25: save(" + bad + ")", x.save(bad), Look.BAD_VALUE);
            Due.is("26: restore(" + bad + ")", x.restore(bad), Look.BAD_VALUE);
        }
        Due.is("25: count(15), it is no change", x.count(15), 1);
        Due.is("26: restore(0) of nobody", x.restore(0), 0);
        Due.is("26: count(1)", x.count(1), 0);
        Due.is("26: restore(1)", x.restore(1), 2);
        x.person();
        Due.is("25: save(1) overwrites", x.save(1), 3);
        x.restore(0);
        Due.is("26: restore(1)", x.restore(1), 3);
    }

    private static void restore() {
        String before = Look.atState(week());
        for (int which = 0; which < 9; which++) {
            CanteenPlates x = week();
            x.save(0);
            change(x, which);
            Due.is("26: restore(0) behind change " + which, x.restore(0), 3);
            Due.same("26: the state behind change " + which, Look.atState(x), before);
            change(x, which);
            x.restore(0);
            Due.same("26: the slot keeps it, behind change " + which, Look.atState(x), before);
        }
    }

    private static void restoreIsAChange() {
        CanteenPlates x = Look.after("p");
        Due.is("26: restore(0)", x.restore(0), Look.NOT_POSSIBLE);
        Due.is("26: count(15)", x.count(15), 1);
        x.save(0);
        Look.carryOut(x, "p;p");
        Look.write(x, "p;q");
        Due.is("26: restore(0)", x.restore(0), 1);
        Due.is("26: count(15)", x.count(15), 3);
        Due.is("26: count(14), the pad stays", x.count(14), 3);
        Due.is("24: undo() of restore()", x.undo(), 2);
        Due.is("24: count(1)", x.count(1), 3);
        Due.is("24: undo()", x.undo(), 1);
        Due.is("24: count(1)", x.count(1), 1);
    }

    private static void slotsAreApart() {
        CanteenPlates x = Look.after("p");
        x.save(1);
        Due.is("26: restore(0)", x.restore(0), Look.NOT_POSSIBLE);
        x.person();
        x.save(0);
        x.person();
        Due.is("26: restore(1)", x.restore(1), 1);
        Due.is("26: restore(0)", x.restore(0), 2);
        CanteenPlates other = new CanteenPlates();
        Due.is("26: restore(0) of another object", other.restore(0), Look.NOT_POSSIBLE);
    }

    /** Changes and undo by turns, round the history many times. */
    private static void historyRunsOn() {
        CanteenPlates x = Look.after("p");
        for (int round = 0; round < 25; round++) {
            x.set(CanteenPlates.SPARE, round % 10);
            x.set(CanteenPlates.KEEP, round % 21);
            x.set(CanteenPlates.BAN, 1 + round % 20);
            x.undo();
            x.undo();
            Due.is("24: count(10)", x.count(10), round % 10);
            Due.is("24: count(11)", x.count(11), 4);
            Due.is("24: count(13)", x.count(13), 5);
        }
        for (int left = 3; left >= 0; left--) {
            Due.is("24: undo()", x.undo(), left);
            Due.is("24: count(10)", x.count(10), left % 10);
        }
    }
}
