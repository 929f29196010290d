/** The boundaries that the document's promises 24 to 26 name: a method for each sentence. */
public final class BoundaryStatesTest {
    private static final int LEAST = Integer.MIN_VALUE, MOST = Integer.MAX_VALUE;

    public static void main(String[] args) {
        undoLeavesThreeThings();
        sixStates();
        eachChangeRecords();
        errorsRecordNothing();
        oldestIsDropped();
        ordersOfTextsRecordNothing();
        undoAnswers();
        saveLeavesThreeThings();
        saveOverwrites();
        saveErrors();
        twoSlots();
        slotKeepsIt();
        restoreIsAChange();
        restoreErrors();
        savedOfNobody();
        Due.end();
    }

    private static void undoLeavesThreeThings() {
        Due.sentence("Undoes the latest change: everything except the pad, the slots and the history is as it was before it.");
        CanteenPlates x = Look.after("p");
        x.save(0);
        x.person();
        String before = Look.atState(x);
        x.set(CanteenPlates.SPARE, 5);
        Look.write(x, "k;?");
        x.save(1);
        Due.is("undo()", x.undo(), 2);
        Due.same("the state behind undo()", Look.atState(x), before);
        Due.is("count(14), the pad stays", x.count(14), 3);
        Due.is("fault(), the pad stays", x.fault(), 2);
        Due.is("restore(0), the slot stays", x.restore(0), 1);
        Due.is("restore(1), the slot stays", x.restore(1), 2);
        Due.is("count(10), the slot stays", x.count(10), 5);
        x.wipe();
        x.undo();
        x.undo();
        Due.is("count(14), also an empty pad stays", x.count(14), 0);
        Due.same("the state behind undo()", Look.atState(x), before);
    }

    private static void sixStates() {
        Due.sentence("A history of at most 6 states is kept");
        for (int changes = 0; changes <= 20; changes++) {
            CanteenPlates x = new CanteenPlates();
            for (int change = 0; change < changes; change++) {
                x.set(change % 2, change % 10);
            }
            int kept = Math.min(6, changes);
            Due.is("count(15) behind " + changes, x.count(15), kept);
            for (int left = kept - 1; left >= 0; left--) {
                Due.is("undo() behind " + changes, x.undo(), left);
                int undone = changes - kept + left;
                Due.is("count(10)", x.count(10), undone == 0 ? 1 : (undone - 1 - (undone - 1) % 2) % 10);
                Due.is("count(11)", x.count(11), undone < 2 ? 4 : (undone - 1 - undone % 2) % 10);
            }
            Due.is("undo() behind all", x.undo(), Look.NOT_POSSIBLE);
        }
    }

    /** One of each kind of change, most of them to what is there already. */
    private static int change(CanteenPlates x, int which) {
        switch (which) {
            case 0:
                return x.set(CanteenPlates.SPARE, x.count(10));
            case 1:
                return x.price(0, 0, 1);
            case 2:
                return x.person();
            case 3:
                return x.vouchers(0, 30);
            case 4:
                return x.order(0, 0, 0);
            case 5:
                return x.callOff(0, 1);
            case 6:
                return x.cook();
            case 7:
                return x.come(0);
            case 8:
                return x.buy(1, 0);
            case 9:
                return x.close();
            case 10:
                return Look.carryOut(x, "c99");
            default:
                return x.restore(0);
        }
    }

    private static void eachChangeRecords() {
        Due.sentence("each method that is a change, and returns no error, records the state before it (also if nothing is different "
            + "then)");
        for (int which = 0; which <= 11; which++) {
            boolean cooked = which >= 7 && which <= 9;
            String behind = cooked ? "p;p;v0+25;o0a;o0a+1;k" : which == 4 ? "p;p" : "p;p;v0+25;o0a;o0a+1";
            CanteenPlates x = Look.after(behind);
            x.save(0);
            String before = Look.atState(x);
            Due.is("change " + which, Math.min(0, change(x, which)), 0);
            Due.is("count(15) behind change " + which, x.count(15), 2);
            Due.is("undo() of change " + which, x.undo(), 1);
            Due.same("the state behind undo() of change " + which, Look.atState(x), before);
        }
        CanteenPlates y = Look.after("p;v0+25");
        y.vouchers(0, 30);
        Due.is("count(15), nothing is different", y.count(15), 2);
        Due.is("undo()", y.undo(), 1);
        Due.is("of(0, 0)", y.of(0, 0), 30);
    }

    private static void errorsRecordNothing() {
        Due.sentence("and returns no error, records the state before it");
        for (int before = 0; before <= 8; before++) {
            CanteenPlates x = new CanteenPlates();
            Look.people(x, before);
            int[] answers = {x.set(9, 9), x.price(0, 0, 9), x.vouchers(9, 9), x.order(9, 0, 0), x.callOff(9, 1), x.come(9),
                x.buy(9, 9), x.close(), x.carryOut(), x.restore(0), x.restore(9), x.save(9), x.put(0)};
            for (int call = 0; call < answers.length; call++) {
                Due.is("call " + call + " is an error", answers[call] < 0 ? 1 : 0, 1);
            }
            Due.is("count(15) behind errors", x.count(15), Math.min(6, before));
            for (int left = Math.min(6, before) - 1; left >= 0; left--) {
                Due.is("undo()", x.undo(), left);
                Due.is("count(1)", x.count(1), before - Math.min(6, before) + left);
            }
        }
        CanteenPlates full = new CanteenPlates();
        Look.people(full, 14);
        full.person();
        full.cook();
        full.cook();
        Due.is("undo() of the only cook()", full.undo(), 5);
        Due.is("count(2)", full.count(2), 0);
        Due.is("undo() of the fourteenth", full.undo(), 4);
        Due.is("count(1)", full.count(1), 13);
    }

    private static void oldestIsDropped() {
        Due.sentence("when one more is recorded, the oldest one is dropped.");
        for (int changes = 6; changes <= 14; changes++) {
            CanteenPlates x = new CanteenPlates();
            Look.people(x, changes);
            for (int times = 0; times < 6; times++) {
                x.undo();
            }
            Due.is("count(1), the oldest state of six", x.count(1), changes - 6);
            Due.is("undo() of more than six", x.undo(), Look.NOT_POSSIBLE);
        }
        // Behind undo() the places are free again.
        CanteenPlates x = new CanteenPlates();
        Look.people(x, 8);
        x.undo();
        x.undo();
        Due.is("count(15)", x.count(15), 4);
        Look.people(x, 2);
        Due.is("count(15)", x.count(15), 6);
        for (int times = 0; times < 6; times++) {
            x.undo();
        }
        Due.is("count(1), nothing was dropped by two", x.count(1), 2);
    }

    private static void ordersOfTextsRecordNothing() {
        Due.sentence("An order of a text records nothing by itself.");
        CanteenPlates x = new CanteenPlates();
        Look.people(x, 2);
        Look.carryOut(x, "p;p;p;p;p;p;p;p");
        Due.is("count(15)", x.count(15), 3);
        Due.is("undo()", x.undo(), 2);
        Due.is("count(1)", x.count(1), 2);
        Due.is("undo()", x.undo(), 1);
        Due.is("count(1)", x.count(1), 1);
    }

    private static void undoAnswers() {
        Due.sentence("Returns how many changes can be undone then; NOT_POSSIBLE if there is none.");
        CanteenPlates x = new CanteenPlates();
        Due.is("undo() on a new object", x.undo(), Look.NOT_POSSIBLE);
        x.person();
        Due.is("undo() of the only one", x.undo(), 0);
        Due.is("undo() again", x.undo(), Look.NOT_POSSIBLE);
        Due.is("count(15)", x.count(15), 0);
        Due.is("count(1)", x.count(1), 0);
        Look.people(x, 7);
        for (int left = 5; left >= 0; left--) {
            Due.is("undo()", x.undo(), left);
        }
        Due.is("undo() behind six", x.undo(), Look.NOT_POSSIBLE);
    }

    private static void saveLeavesThreeThings() {
        Due.sentence("Saves everything except the pad, the history and the slots in a slot, and overwrites what was saved there.");
        CanteenPlates x = Look.after("p;o0a+4");
        Look.write(x, "p;k");
        String saved = Look.atState(x);
        Due.is("save(0)", x.save(0), 1);
        Due.is("count(14), the pad stays", x.count(14), 3);
        Due.is("count(15), it records nothing", x.count(15), 1);
        Look.people(x, 3);
        x.wipe();
        Due.is("save(1)", x.save(1), 4);
        Look.write(x, "k;x;?");
        Due.is("restore(0)", x.restore(0), 1);
        Due.same("the state behind restore(0)", Look.atState(x), saved);
        Due.is("count(14), the pad is not what was saved", x.count(14), 5);
        Due.is("count(15), the history is not what was saved", x.count(15), 5);
        Due.is("restore(1), the other slot is as it was", x.restore(1), 4);
    }

    private static void saveOverwrites() {
        Due.sentence("and overwrites what was saved there.");
        for (int slot = 0; slot < 2; slot++) {
            CanteenPlates x = Look.after("p;p;p;o0a;o1b;o2c");
            Due.is("save(" + slot + ") of three", x.save(slot), 3);
            x.undo();
            x.person();
            String saved = Look.atState(x);
            Due.is("save(" + slot + ") of one", x.save(slot), 1);
            Look.people(x, 2);
            Due.is("restore(" + slot + ")", x.restore(slot), 1);
            Due.same("the state behind restore(" + slot + ")", Look.atState(x), saved);
            Due.is("person() behind it", x.person(), 1);
            Due.is("of(1, 2), nothing is left of the three", x.of(1, 2), 0);
        }
    }

    private static void saveErrors() {
        Due.sentence("Returns how many people there are; BAD_VALUE if there is no such slot.");
        for (int slot = -3; slot <= 4; slot++) {
            CanteenPlates x = new CanteenPlates();
            boolean good = slot == 0 || slot == 1;
            Due.is("save(" + slot + ") of nobody", x.save(slot), good ? 0 : Look.BAD_VALUE);
            Look.people(x, 14);
            Due.is("save(" + slot + ") of all", x.save(slot), good ? 14 : Look.BAD_VALUE);
        }
        Due.is("save(least)", new CanteenPlates().save(LEAST), Look.BAD_VALUE);
        Due.is("save(most)", new CanteenPlates().save(MOST), Look.BAD_VALUE);
    }

    private static void twoSlots() {
        Due.sentence("slot: 0 or 1");
        for (int slot = -2; slot <= 3; slot++) {
            boolean good = slot == 0 || slot == 1;
            CanteenPlates x = Look.after("p");
            Due.is("save(" + slot + ")", x.save(slot), good ? 1 : Look.BAD_VALUE);
            x.person();
            Due.is("restore(" + slot + ")", x.restore(slot), good ? 1 : Look.BAD_VALUE);
            Due.is("restore() of the other one", x.restore(slot == 0 ? 1 : 0), Look.NOT_POSSIBLE);
            Due.is("count(1)", x.count(1), good ? 1 : 2);
        }
    }

    private static void slotKeepsIt() {
        Due.sentence("Restores what was saved last in a slot, which keeps it.");
        CanteenPlates x = Look.after("p;p;o0a;o1b+1;k;c0;x");
        x.set(CanteenPlates.BAN, 9);
        x.save(1);
        String saved = Look.atState(x);
        for (int times = 0; times < 3; times++) {
            Look.carryOut(x, "p;o0a;k;x;o1c;k;x");
            x.set(CanteenPlates.BAN, 2);
            x.callOff(1, 1);
            x.price(1, 1, 3);
            Due.is("restore(1), time " + times, x.restore(1), 2);
            Due.same("the state behind restore(1), time " + times, Look.atState(x), saved);
        }
    }

    private static void restoreIsAChange() {
        Due.sentence("Restores what was saved last in a slot, which keeps it. This is a change.");
        CanteenPlates x = Look.after("p");
        x.save(0);
        Due.is("restore(0), nothing is different", x.restore(0), 1);
        Due.is("count(15)", x.count(15), 2);
        Look.people(x, 6);
        String before = Look.atState(x);
        Due.is("restore(0)", x.restore(0), 1);
        Due.is("count(15)", x.count(15), 6);
        Due.is("undo()", x.undo(), 5);
        Due.same("the state behind undo() of restore(0)", Look.atState(x), before);
    }

    private static void restoreErrors() {
        Due.sentence("Returns how many people there are then; BAD_VALUE if there is no such slot; NOT_POSSIBLE if nothing was saved in "
            + "it.");
        CanteenPlates x = Look.after("p");
        for (int bad : new int[] {LEAST, -1, 2, MOST}) {
            Due.is("restore(" + bad + ")", x.restore(bad), Look.BAD_VALUE);
        }
        Due.is("restore(0), nothing was saved", x.restore(0), Look.NOT_POSSIBLE);
        Due.is("restore(1), nothing was saved", x.restore(1), Look.NOT_POSSIBLE);
        x.save(1);
        Due.is("restore(0), it was saved in the other one", x.restore(0), Look.NOT_POSSIBLE);
        Due.is("restore(1)", x.restore(1), 1);
        x.undo();
        x.undo();
        Due.is("restore(1), undo() leaves it", x.restore(1), 1);
        Due.is("restore(0), undo() leaves it", x.restore(0), Look.NOT_POSSIBLE);
        Due.is("count(15)", x.count(15), 1);
    }

    private static void savedOfNobody() {
        Due.sentence("Returns how many people there are then");
        CanteenPlates x = new CanteenPlates();
        String none = Look.atState(x);
        x.save(0);
        Look.people(x, 14);
        x.save(1);
        Due.is("restore(0) of nobody", x.restore(0), 0);
        Due.same("the state behind restore(0)", Look.atState(x), none);
        Due.is("of(0, 0)", x.of(0, 0), Look.NO_SUCH);
        Due.is("restore(1) of all", x.restore(1), 14);
        Due.is("of(13, 0)", x.of(13, 0), 5);
        Due.is("person()", x.person(), Look.TOO_MANY);
    }
}
