/** Promises 1 to 11: a new object and the changes. */
public final class ChangesTest {
    private static final int LEAST = Integer.MIN_VALUE, MOST = Integer.MAX_VALUE;

    public static void main(String[] args) {
        newObject();
        set();
        price();
        person();
        vouchers();
        order();
        orderErrors();
        callOff();
        cook();
        cookByDoubt();
        come();
        comeWithoutPlate();
        buy();
        buyErrors();
        close();
        closeThrows();
        strikesAndBans();
        bansOverlap();
        ordersMoveOn();
        lastDay();
        failedChangesChangeNothing();
        Due.end();
    }

    private static void newObject() {
        CanteenPlates x = new CanteenPlates();
        int[] counts = {0, 0, 0, 0, 0, 0, 0, 0, 0, 0, 1, 4, 3, 5, 0, 0};
        for (int what = 0; what < counts.length; what++) {
            Due.is("1: count(" + what + ")", x.count(what), counts[what]);
        }
        int[] dish = {0, 0, 0, 0, 0, 0, 1, 1};
        for (int d = 0; d < 3; d++) {
            for (int what = 0; what < dish.length; what++) {
                Due.is("1: ofDish(" + d + ", " + what + ")", x.ofDish(d, what), dish[what]);
            }
            for (int ahead = 0; ahead < 5; ahead++) {
                Due.is("1: ordered(" + ahead + ", " + d + ")", x.ordered(ahead, d), 0);
            }
        }
        Due.is("1: of(0, 0)", x.of(0, 0), Look.NO_SUCH);
        Due.is("1: unsurest(0)", x.unsurest(0), Look.NONE);
        Due.is("1: wasted()", x.wasted(), Look.NONE);
        Due.is("1: fault()", x.fault(), 0);
        Due.is("1: wipe()", x.wipe(), 0);
        Due.is("1: carryOut()", x.carryOut(), Look.BAD_TEXT);
        Due.is("1: undo()", x.undo(), Look.NOT_POSSIBLE);
        Due.is("1: restore(0)", x.restore(0), Look.NOT_POSSIBLE);
        Due.is("1: restore(1)", x.restore(1), Look.NOT_POSSIBLE);
        for (int weekday = 0; weekday < 5; weekday++) {
            for (int d = 0; d < 3; d++) {
                Due.is("1: price(" + weekday + ", " + d + ", 2)", x.price(weekday, d, 2), 1);
            }
        }
        Due.is("1: another object is apart", new CanteenPlates().price(0, 0, 1), 1);
    }

    private static void set() {
        int[] first = {1, 4, 3, 5};
        int[] low = {0, 0, 1, 1};
        int[] high = {9, 20, 9, 20};
        for (int setting = 0; setting < 4; setting++) {
            CanteenPlates x = new CanteenPlates();
            String call = "2: set(" + setting + ", ..) ";
            Due.is(call + "below", x.set(setting, low[setting] - 1), Look.BAD_VALUE);
            Due.is(call + "above", x.set(setting, high[setting] + 1), Look.BAD_VALUE);
            Due.is(call + "far below", x.set(setting, LEAST), Look.BAD_VALUE);
            Due.is(call + "far above", x.set(setting, MOST), Look.BAD_VALUE);
            Due.is(call + "no change", x.count(15), 0);
            Due.is(call + "lowest", x.set(setting, low[setting]), first[setting]);
            Due.is(call + "highest", x.set(setting, high[setting]), low[setting]);
            Due.is(call + "the same", x.set(setting, high[setting]), high[setting]);
            for (int other = 0; other < 4; other++) {
                Due.is(call + "count(" + (10 + other) + ")", x.count(10 + other),
                    other == setting ? high[other] : first[other]);
            }
            Due.is(call + "changes", x.count(15), 3);
        }
        CanteenPlates x = new CanteenPlates();
        for (int setting : new int[] {-1, 4, 5, LEAST, MOST}) {
            Due.is("2: set(" + setting + ", 1)", x.set(setting, 1), Look.BAD_VALUE);
        }
    }

    private static void price() {
        CanteenPlates x = new CanteenPlates();
        Due.is("3: price(2, 1, 3)", x.price(2, 1, 3), 1);
        Due.is("3: price(2, 1, 2)", x.price(2, 1, 2), 3);
        Due.is("3: price(2, 1, 1)", x.price(2, 1, 1), 2);
        for (int bad : new int[] {-1, 5, LEAST, MOST}) {
            Due.is("3: price(" + bad + ", 0, 1)", x.price(bad, 0, 1), Look.NO_SUCH);
            Due.is("3: price(" + bad + ", 0, 0)", x.price(bad, 0, 0), Look.NO_SUCH);
        }
        for (int bad : new int[] {-1, 3, LEAST, MOST}) {
            Due.is("3: price(0, " + bad + ", 1)", x.price(0, bad, 1), Look.NO_SUCH);
            Due.is("3: price(0, " + bad + ", 4)", x.price(0, bad, 4), Look.NO_SUCH);
        }
        for (int bad : new int[] {0, 4, -1, LEAST, MOST}) {
            Due.is("3: price(0, 0, " + bad + ")", x.price(0, 0, bad), Look.BAD_VALUE);
        }
        Due.is("3: errors are no changes", x.count(15), 3);
        Due.is("3: price(4, 2, 3)", x.price(4, 2, 3), 1);
        Due.is("3: price(0, 2, 2)", x.price(0, 2, 2), 1);
        Due.is("3: ofDish(2, 6)", x.ofDish(2, 6), 2);
        Due.is("3: ofDish(1, 6)", x.ofDish(1, 6), 1);
        Look.carryOut(x, "k;x;k;x;k;x;k;x");
        Due.is("3: ofDish(2, 6) on weekday 4", x.ofDish(2, 6), 3);
        Look.carryOut(x, "k;x");
        Due.is("3: ofDish(2, 6) on weekday 0 again", x.ofDish(2, 6), 2);
        pricePaidStays();
    }

    private static void pricePaidStays() {
        CanteenPlates x = Look.after("p");
        x.price(1, 0, 3);
        Due.is("3: order(0, 1, 0)", x.order(0, 1, 0), 2);
        x.price(1, 0, 1);
        Due.is("3: of(0, 0)", x.of(0, 0), 2);
        Due.is("3: callOff(0, 1) gives what was paid", x.callOff(0, 1), 5);
        Due.is("3: order(0, 1, 0) at the new price", x.order(0, 1, 0), 4);
        x.price(1, 0, 3);
        Due.is("3: callOff(0, 1) gives what was paid", x.callOff(0, 1), 5);
        x.price(4, 0, 3);
        x.order(0, 4, 0);
        x.order(0, 3, 0);
        x.price(4, 0, 1);
        Look.carryOut(x, "k;x");
        Due.is("3: callOff(0, 3) gives what was paid the day before", x.callOff(0, 3), 4);
        Due.is("3: callOff(0, 2) gives what was paid the day before", x.callOff(0, 2), 5);
    }

    private static void person() {
        CanteenPlates x = new CanteenPlates();
        for (int person = 0; person < 14; person++) {
            Due.is("4: of(" + person + ", 0)", x.of(person, 0), Look.NO_SUCH);
            Due.is("4: person()", x.person(), person);
            int[] about = {5, Look.NONE, 0, 0, 0, 0, 0, 0, 0};
            for (int what = 0; what < about.length; what++) {
                Due.is("4: of(" + person + ", " + what + ")", x.of(person, what), about[what]);
            }
        }
        Due.is("4: person()", x.person(), Look.TOO_MANY);
        Due.is("4: person()", x.person(), Look.TOO_MANY);
        Due.is("4: count(1)", x.count(1), 14);
        Due.is("4: count(7)", x.count(7), 70);
        Due.is("4: undo()", x.undo(), 5);
        Due.is("4: person()", x.person(), 13);
        personAfresh();
    }

    /** A person who comes where another one was undone has nothing of the other one. */
    private static void personAfresh() {
        String[] others = {"p;v0+20;o0a;o0b+3;k;c0;x;o0a;k;x", "p;k;c0a", "p;o0a;k;x;o0a;k;x;o0a;k;x"};
        for (String other : others) {
            CanteenPlates x = new CanteenPlates();
            x.save(0);
            Look.carryOut(x, other);
            x.restore(0);
            Due.is("4: person()", x.person(), 0);
            Due.same("4: a person afresh", Look.atState(x), Look.atState(Look.after("p")));
        }
    }

    private static void vouchers() {
        CanteenPlates x = Look.after("p;p");
        Due.is("5: vouchers(0, 1)", x.vouchers(0, 1), 6);
        Due.is("5: vouchers(0, 24)", x.vouchers(0, 24), 30);
        Due.is("5: vouchers(0, 1)", x.vouchers(0, 1), 30);
        Due.is("5: vouchers(1, 30)", x.vouchers(1, 30), 30);
        Due.is("5: of(1, 0)", x.of(1, 0), 30);
        Due.is("5: count(15)", x.count(15), 5);
        for (int bad : new int[] {0, 31, -1, LEAST, MOST}) {
            Due.is("5: vouchers(0, " + bad + ")", x.vouchers(0, bad), Look.BAD_VALUE);
            Due.is("5: vouchers(2, " + bad + ")", x.vouchers(2, bad), Look.NO_SUCH);
        }
        for (int bad : new int[] {-1, 2, 14, LEAST, MOST}) {
            Due.is("5: vouchers(" + bad + ", 1)", x.vouchers(bad, 1), Look.NO_SUCH);
        }
        Due.is("5: count(15)", x.count(15), 5);
    }

    private static void order() {
        CanteenPlates x = Look.after("p;p");
        x.price(0, 2, 2);
        x.price(4, 1, 3);
        Due.is("6: order(0, 0, 2)", x.order(0, 0, 2), 3);
        Due.is("6: of(0, 1)", x.of(0, 1), 2);
        Due.is("6: order(0, 0, 2) again", x.order(0, 0, 2), Look.NOT_POSSIBLE);
        Due.is("6: order(0, 0, 1) again", x.order(0, 0, 1), Look.NOT_POSSIBLE);
        Due.is("6: order(0, 4, 1)", x.order(0, 4, 1), 0);
        Due.is("6: of(0, 2)", x.of(0, 2), 17);
        Due.is("6: order(0, 1, 0) without vouchers", x.order(0, 1, 0), Look.NOT_POSSIBLE);
        Due.is("6: order(1, 4, 1)", x.order(1, 4, 1), 2);
        Due.is("6: ordered(4, 1)", x.ordered(4, 1), 3);
        Due.is("6: order(1, 0, 0)", x.order(1, 0, 0), 1);
        Due.is("6: ordered(0, 0)", x.ordered(0, 0), 2);
        x.cook();
        CanteenPlates y = Look.after("p;k");
        Due.is("6: order(0, 0, 0) behind the cooking", y.order(0, 0, 0), Look.NOT_POSSIBLE);
        Due.is("6: order(0, 1, 0) behind the cooking", y.order(0, 1, 0), 4);
        CanteenPlates z = Look.after("p;k;x;k;x;k;x");
        z.price(2, 0, 3);
        Due.is("6: order(0, 4, 0) by the weekday's price", z.order(0, 4, 0), 2);
    }

    private static void orderErrors() {
        CanteenPlates x = Look.after("p");
        for (int bad : new int[] {-1, 1, 14, LEAST, MOST}) {
            Due.is("6: order(" + bad + ", 0, 0)", x.order(bad, 0, 0), Look.NO_SUCH);
            Due.is("6: order(" + bad + ", 5, 0)", x.order(bad, 5, 0), Look.NO_SUCH);
        }
        for (int bad : new int[] {-1, 3, LEAST, MOST}) {
            Due.is("6: order(0, 0, " + bad + ")", x.order(0, 0, bad), Look.NO_SUCH);
            Due.is("6: order(0, -1, " + bad + ")", x.order(0, -1, bad), Look.NO_SUCH);
        }
        x.cook();
        for (int bad : new int[] {-1, 5, LEAST, MOST}) {
            Due.is("6: order(0, " + bad + ", 0)", x.order(0, bad, 0), Look.BAD_VALUE);
        }
        Due.is("6: order(0, 0, 0)", x.order(0, 0, 0), Look.NOT_POSSIBLE);
        Due.is("6: count(15)", x.count(15), 2);
    }

    private static void callOff() {
        CanteenPlates x = Look.after("p;p;o0a;o0b+1;o0c+4;o1c+4");
        Due.is("7: callOff(0, 4)", x.callOff(0, 4), 3);
        Due.is("7: callOff(0, 4) again", x.callOff(0, 4), Look.NOT_POSSIBLE);
        Due.is("7: of(0, 2)", x.of(0, 2), 3);
        Due.is("7: ordered(4, 2)", x.ordered(4, 2), 2);
        Due.is("7: callOff(0, 0)", x.callOff(0, 0), Look.BAD_VALUE);
        Due.is("7: callOff(0, 2)", x.callOff(0, 2), Look.NOT_POSSIBLE);
        Due.is("7: callOff(0, 1)", x.callOff(0, 1), 4);
        Due.is("7: order(0, 1, 2)", x.order(0, 1, 2), 3);
        for (int bad : new int[] {-1, 0, 5, LEAST, MOST}) {
            Due.is("7: callOff(0, " + bad + ")", x.callOff(0, bad), Look.BAD_VALUE);
            Due.is("7: callOff(2, " + bad + ")", x.callOff(2, bad), Look.NO_SUCH);
        }
        for (int bad : new int[] {-1, 2, 14, LEAST, MOST}) {
            Due.is("7: callOff(" + bad + ", 1)", x.callOff(bad, 1), Look.NO_SUCH);
        }
        Due.is("7: count(15)", x.count(15), 4);
        CanteenPlates y = Look.after("p;v0+25");
        y.price(1, 0, 3);
        y.order(0, 1, 0);
        Due.is("7: vouchers(0, 2)", y.vouchers(0, 2), 29);
        Due.is("7: callOff(0, 1), what is above 30 is lost", y.callOff(0, 1), 30);
        CanteenPlates z = Look.after("p;o0a+1;k;x");
        Due.is("7: callOff(0, 1), the order is for today by now", z.callOff(0, 1), Look.NOT_POSSIBLE);
    }

    private static void cook() {
        CanteenPlates x = Look.after("p;p;p;o0a;o1a;o2c;o2a+1");
        Due.is("8: cook()", x.cook(), 6);
        Due.is("8: cook() again", x.cook(), Look.NOT_POSSIBLE);
        Due.is("8: ofDish(0, 1)", x.ofDish(0, 1), 3);
        Due.is("8: ofDish(1, 1)", x.ofDish(1, 1), 1);
        Due.is("8: ofDish(2, 1)", x.ofDish(2, 1), 2);
        Due.is("8: count(3)", x.count(3), 6);
        Due.is("8: count(2)", x.count(2), 1);
        x.close();
        // Nobody came: 3, 1 and 2 plates are kept, and one order by a person who always stays away.
        Due.is("8: count(6)", x.count(6), 6);
        Due.is("8: cook()", x.cook(), 0);
        CanteenPlates y = new CanteenPlates();
        y.set(CanteenPlates.SPARE, 9);
        Due.is("8: cook()", y.cook(), 27);
        y.close();
        Due.is("8: cook() with four kept", y.cook(), 15);
        Due.is("8: count(6)", y.count(6), 27);
        CanteenPlates z = new CanteenPlates();
        z.set(CanteenPlates.SPARE, 0);
        Due.is("8: cook() of nothing", z.cook(), 0);
        Due.is("8: cook() again", z.cook(), Look.NOT_POSSIBLE);
    }

    /** Doubts of 33, 66 and 0 make 2.01 plates, of 50 and 50 one, of 100 none. */
    private static void cookByDoubt() {
        CanteenPlates x = Look.after("p;p;p;v0+9;v1+9;v2+9", "o0a;o1a;o2a;k;c0;c2;x", "o0a;o1a;o2a;k;c0;c2;x",
            "o0a;o1a;o2a;k;c1;c2;x");
        x.set(CanteenPlates.SPARE, 0);
        x.set(CanteenPlates.KEEP, 0);
        Look.carryOut(x, "k;x");
        Due.is("8: of(0, 6)", x.of(0, 6), 1);
        Due.is("8: of(1, 6)", x.of(1, 6), 2);
        x.order(0, 0, 1);
        Due.is("8: ofDish(1, 7) by a doubt of 33", x.ofDish(1, 7), 1);
        x.order(1, 0, 1);
        Due.is("8: ofDish(1, 7) by doubts of 99", x.ofDish(1, 7), 2);
        x.order(2, 0, 1);
        Due.is("8: ofDish(1, 7) by doubts of 99, for three", x.ofDish(1, 7), 3);
        Due.is("8: cook()", x.cook(), 3);
        CanteenPlates y = Look.after("p;p;o0a;o1a;k;c0;x", "o0a;o1a;k;c1;x;k;x;k;x");
        y.set(CanteenPlates.SPARE, 0);
        y.set(CanteenPlates.KEEP, 0);
        Look.carryOut(y, "k;x");
        Look.carryOut(y, "o0b;o1b");
        Due.is("8: cook() by doubts of 50 and 50", y.cook(), 1);
        CanteenPlates z = Look.after("p;o0a;k;x");
        z.set(CanteenPlates.SPARE, 0);
        z.order(0, 0, 1);
        Due.is("8: cook() by a doubt of 100, one kept", z.cook(), 0);
        Due.is("8: ofDish(1, 0)", z.ofDish(1, 0), 1);
    }

    private static void come() {
        CanteenPlates x = Look.after("p;p;o0b");
        Due.is("9: come(0) ahead of the cooking", x.come(0), Look.NOT_POSSIBLE);
        x.cook();
        for (int bad : new int[] {-1, 2, 14, LEAST, MOST}) {
            Due.is("9: come(" + bad + ")", x.come(bad), Look.NO_SUCH);
        }
        Due.is("9: come(1) without an order", x.come(1), Look.NOT_POSSIBLE);
        Due.is("9: of(0, 7)", x.of(0, 7), 0);
        Due.is("9: come(0)", x.come(0), 1);
        Due.is("9: of(0, 7)", x.of(0, 7), 1);
        Due.is("9: of(0, 5)", x.of(0, 5), 1);
        Due.is("9: of(0, 8)", x.of(0, 8), 1);
        Due.is("9: of(0, 0)", x.of(0, 0), 4);
        Due.is("9: of(0, 1), the order stands still", x.of(0, 1), 1);
        Due.is("9: ofDish(1, 2)", x.ofDish(1, 2), 0);
        Due.is("9: ofDish(1, 4)", x.ofDish(1, 4), 1);
        Due.is("9: come(0) again", x.come(0), Look.NOT_POSSIBLE);
        Look.carryOut(x, "x;o0b;k");
        Due.is("9: ofDish(1, 0)", x.ofDish(1, 0), 1);
        Due.is("9: ofDish(1, 1)", x.ofDish(1, 1), 1);
        Due.is("9: come(0) for a plate that was kept", x.come(0), 1);
        Due.is("9: ofDish(1, 0)", x.ofDish(1, 0), 0);
        Due.is("9: ofDish(1, 1)", x.ofDish(1, 1), 1);
        Due.is("9: come(0) behind the closing", Look.after("p;o0b;k;x").come(0), Look.NOT_POSSIBLE);
        CanteenPlates y = Look.after("p;o0a+1;k");
        Due.is("9: come(0) with an order for tomorrow", y.come(0), Look.NOT_POSSIBLE);
    }

    /** Two with a doubt of 50 order the dish of which one plate is cooked. */
    private static void comeWithoutPlate() {
        CanteenPlates x = new CanteenPlates();
        x.set(CanteenPlates.SPARE, 0);
        x.set(CanteenPlates.KEEP, 0);
        Look.carryOut(x, "p;p;o0a;o1a;k;c0;x;o0a;o1a;k;c1;x");
        x.price(2, 2, 3);
        x.vouchers(0, 30);
        Look.carryOut(x, "o0c;o1c");
        Due.is("9: of(0, 0)", x.of(0, 0), 27);
        Due.is("9: of(0, 3)", x.of(0, 3), 1);
        Due.is("9: cook()", x.cook(), 1);
        Due.is("9: come(1)", x.come(1), 2);
        x.price(2, 2, 1);
        x.vouchers(0, 1);
        Due.is("9: come(0) for no plate", x.come(0), 3);
        Due.is("9: of(0, 0), 30 at most", x.of(0, 0), 30);
        Due.is("9: of(0, 3)", x.of(0, 3), 0);
        Due.is("9: of(0, 5)", x.of(0, 5), 2);
        Due.is("9: of(0, 7)", x.of(0, 7), 1);
        Due.is("9: of(0, 8)", x.of(0, 8), 1);
        Due.is("9: of(1, 8)", x.of(1, 8), 2);
        Due.is("9: count(4)", x.count(4), 3);
        Due.is("9: come(0) again", x.come(0), Look.NOT_POSSIBLE);
        Due.is("9: close()", x.close(), 0);
        CanteenPlates y = new CanteenPlates();
        y.set(CanteenPlates.SPARE, 0);
        y.set(CanteenPlates.KEEP, 0);
        y.price(1, 0, 2);
        Look.carryOut(y, "p;o0a;k;x;o0a;k");
        Due.is("9: come(0) for no plate", y.come(0), 3);
        Due.is("9: of(0, 0) with what was paid", y.of(0, 0), 4);
    }

    private static void buy() {
        CanteenPlates x = new CanteenPlates();
        x.price(0, 1, 3);
        Look.carryOut(x, "p;p;p;o0a");
        Due.is("10: buy(1, 1) ahead of the cooking", x.buy(1, 1), Look.NOT_POSSIBLE);
        x.cook();
        Due.is("10: buy(0, 1) with an order", x.buy(0, 1), Look.NOT_POSSIBLE);
        Due.is("10: buy(1, 1)", x.buy(1, 1), 1);
        Due.is("10: of(1, 7)", x.of(1, 7), 1);
        Due.is("10: of(1, 8)", x.of(1, 8), 1);
        Due.is("10: of(1, 5)", x.of(1, 5), 0);
        Due.is("10: of(1, 1)", x.of(1, 1), Look.NONE);
        Due.is("10: ofDish(1, 1)", x.ofDish(1, 1), 0);
        Due.is("10: ofDish(1, 4)", x.ofDish(1, 4), 1);
        Due.is("10: buy(1, 2) again", x.buy(1, 2), Look.NOT_POSSIBLE);
        Due.is("10: buy(2, 1), none left", x.buy(2, 1), Look.NOT_POSSIBLE);
        Due.is("10: buy(2, 0), one is spare", x.buy(2, 0), 3);
        Due.is("10: come(0)", x.come(0), 0);
        Due.is("10: come(0) behind buy", x.come(1), Look.NOT_POSSIBLE);
        x.close();
        Due.is("10: close() makes it no strike", x.of(1, 3), 0);
        Due.is("10: of(1, 7) on the next day", x.of(1, 7), 0);
        keptForOrders();
        strikesStayBehindBuying();
    }

    /** Plates for which somebody with an order is awaited are not for sale. */
    private static void keptForOrders() {
        CanteenPlates x = new CanteenPlates();
        x.set(CanteenPlates.SPARE, 0);
        Look.carryOut(x, "p;p;p;o0a;o1a;k");
        Due.is("10: buy(2, 0), both are awaited", x.buy(2, 0), Look.NOT_POSSIBLE);
        x.come(0);
        Due.is("10: buy(2, 0), one is awaited", x.buy(2, 0), Look.NOT_POSSIBLE);
        x.come(1);
        Due.is("10: buy(2, 0), none is left", x.buy(2, 0), Look.NOT_POSSIBLE);
        CanteenPlates y = Look.after("p;p;k;x;o0a;k");
        Due.is("10: ofDish(0, 0)", y.ofDish(0, 0), 1);
        Due.is("10: ofDish(0, 1)", y.ofDish(0, 1), 1);
        Due.is("10: buy(1, 0), a kept plate first", y.buy(1, 0), 3);
        Due.is("10: ofDish(0, 0)", y.ofDish(0, 0), 0);
        Due.is("10: ofDish(0, 1)", y.ofDish(0, 1), 1);
        CanteenPlates z = Look.after("p;p;o0b+1;k");
        Due.is("10: buy(0, 1) with an order for tomorrow", z.buy(0, 1), 2);
        Due.is("10: of(0, 2)", z.of(0, 2), 2);
    }

    private static void strikesStayBehindBuying() {
        CanteenPlates x = Look.after("p;o0a;k;x;k");
        Due.is("10: of(0, 3)", x.of(0, 3), 1);
        Due.is("10: buy(0, 0)", x.buy(0, 0), 2);
        Due.is("10: of(0, 3), buying takes no strike", x.of(0, 3), 1);
        Due.is("10: unsurest(1), nor a doubt", x.unsurest(1), 100);
    }

    private static void buyErrors() {
        CanteenPlates x = Look.after("p;k");
        for (int bad : new int[] {-1, 1, 14, LEAST, MOST}) {
            Due.is("10: buy(" + bad + ", 0)", x.buy(bad, 0), Look.NO_SUCH);
            Due.is("10: buy(" + bad + ", 3)", x.buy(bad, 3), Look.NO_SUCH);
        }
        for (int bad : new int[] {-1, 3, LEAST, MOST}) {
            Due.is("10: buy(0, " + bad + ")", x.buy(0, bad), Look.NO_SUCH);
        }
        CanteenPlates y = Look.after("p;o0a+1;o0a+2;o0a+3;o0a+4;k");
        Due.is("10: of(0, 0)", y.of(0, 0), 1);
        Due.is("10: buy(0, 0) with one voucher", y.buy(0, 0), Look.NOT_POSSIBLE);
        y.vouchers(0, 1);
        Due.is("10: buy(0, 0) with two vouchers", y.buy(0, 0), 0);
        CanteenPlates z = Look.after("p;o0a+1;o0a+2");
        z.price(0, 0, 3);
        z.cook();
        Due.is("10: buy(0, 0) with three vouchers for four", z.buy(0, 0), Look.NOT_POSSIBLE);
        z.price(0, 0, 2);
        Due.is("10: buy(0, 0) with three vouchers for three", z.buy(0, 0), 0);
    }

    private static void close() {
        CanteenPlates x = Look.after("p;p;p;p;o0a;o1b;o2c;o0a+1");
        Due.is("11: close() ahead of the cooking", x.close(), Look.NOT_POSSIBLE);
        Look.carryOut(x, "k;c1;c3a");
        Due.is("11: close()", x.close(), 2);
        Due.is("11: count(0)", x.count(0), 1);
        Due.is("11: count(2)", x.count(2), 0);
        Due.is("11: count(9)", x.count(9), 2);
        int[] away = {1, 0, 1, 0};
        for (int person = 0; person < 4; person++) {
            Due.is("11: of(" + person + ", 6)", x.of(person, 6), away[person]);
            Due.is("11: of(" + person + ", 3)", x.of(person, 3), away[person]);
            Due.is("11: of(" + person + ", 7)", x.of(person, 7), 0);
        }
        Due.is("11: of(2, 0), what was paid is gone", x.of(2, 0), 4);
        Due.is("11: close() again", x.close(), Look.NOT_POSSIBLE);
        x.cook();
        Due.is("11: close()", x.close(), 1);
        Due.is("11: of(0, 3)", x.of(0, 3), 2);
        Due.is("11: of(0, 6)", x.of(0, 6), 2);
    }

    private static void closeThrows() {
        CanteenPlates x = new CanteenPlates();
        x.set(CanteenPlates.SPARE, 6);
        Look.carryOut(x, "p;p;k;c0a");
        Due.is("11: ofDish(0, 1)", x.ofDish(0, 1), 5);
        x.close();
        Due.is("11: ofDish(0, 0), four are kept", x.ofDish(0, 0), 4);
        Due.is("11: ofDish(0, 1)", x.ofDish(0, 1), 0);
        Due.is("11: ofDish(0, 5)", x.ofDish(0, 5), 1);
        Due.is("11: ofDish(1, 5)", x.ofDish(1, 5), 2);
        Due.is("11: cook()", x.cook(), 6);
        x.set(CanteenPlates.KEEP, 1);
        x.close();
        // Of dish 0 four were kept and two are new: the four and one of the two are thrown.
        Due.is("11: ofDish(0, 5)", x.ofDish(0, 5), 6);
        Due.is("11: ofDish(0, 0)", x.ofDish(0, 0), 1);
        x.set(CanteenPlates.KEEP, 0);
        x.cook();
        x.close();
        Due.is("11: ofDish(0, 0)", x.ofDish(0, 0), 0);
        Due.is("11: ofDish(0, 5)", x.ofDish(0, 5), 12);
        Due.is("11: count(5), all but the one that was eaten", x.count(5), x.count(3) - 1);
    }

    private static void strikesAndBans() {
        CanteenPlates x = Look.after("p;p;o0a;k;x;o0a;k;x;o0a;o0a+3");
        x.set(CanteenPlates.BAN, 2);
        Due.is("11: of(0, 3)", x.of(0, 3), 2);
        Look.carryOut(x, "k;x");
        Due.is("11: of(0, 3) behind the third", x.of(0, 3), 0);
        Due.is("11: of(0, 4)", x.of(0, 4), 5);
        Due.is("11: count(8)", x.count(8), 1);
        Due.is("11: of(0, 2), the order stays", x.of(0, 2), 4);
        Due.is("11: why(0, 0, 0)", x.why(0, 0, 0), 2);
        Due.is("11: why(0, 1, 0)", x.why(0, 1, 0), 2);
        Due.is("11: why(0, 2, 0)", x.why(0, 2, 0), 3);
        Due.is("11: order(0, 1, 0)", x.order(0, 1, 0), Look.NOT_POSSIBLE);
        Look.carryOut(x, "v0+3;k;x;k;x");
        Due.is("11: count(8) on the first day again", x.count(8), 0);
        Due.is("11: of(0, 4) stays", x.of(0, 4), 5);
        Look.carryOut(x, "k;c0");
        Due.is("11: of(0, 5)", x.of(0, 5), 1);
        CanteenPlates y = Look.after("p;o0a;k;x;o0a;k;x");
        y.set(CanteenPlates.STRIKES, 1);
        Look.carryOut(y, "k;x");
        Due.is("11: of(0, 4) without an order for today", y.of(0, 4), 8);
        Due.is("11: of(0, 3)", y.of(0, 3), 0);
        Due.is("11: of(0, 6)", y.of(0, 6), 2);
        CanteenPlates z = Look.after("p;o0a;k;x;o0a;k;x;o0a;k;c0;x");
        Due.is("11: of(0, 3), coming takes all strikes", z.of(0, 3), 0);
        Look.carryOut(z, "o0a;k;x");
        Due.is("11: of(0, 3)", z.of(0, 3), 1);
        Due.is("11: of(0, 4)", z.of(0, 4), 0);
    }

    /** The later, shorter ban does not lift the earlier one; a later, longer one counts. */
    private static void bansOverlap() {
        CanteenPlates x = new CanteenPlates();
        x.set(CanteenPlates.STRIKES, 1);
        Look.carryOut(x, "p;o0a;o0a+1;o0a+2;k;x");
        Due.is("11: of(0, 4)", x.of(0, 4), 6);
        x.set(CanteenPlates.BAN, 1);
        Look.carryOut(x, "k;x");
        Due.is("11: of(0, 4) behind a shorter ban", x.of(0, 4), 6);
        x.set(CanteenPlates.BAN, 20);
        Look.carryOut(x, "k;x");
        Due.is("11: of(0, 4) behind a longer ban", x.of(0, 4), 23);
    }

    private static void ordersMoveOn() {
        CanteenPlates x = Look.after("p;v0+9;o0a;o0b+1;o0c+2;o0a+3;o0b+4");
        int[] dishes = {0, 1, 2, 0, 1, Look.NONE};
        for (int day = 0; day < 6; day++) {
            Due.is("11: of(0, 1) on day " + day, x.of(0, 1), dishes[day]);
            Due.is("11: of(0, 2) on day " + day, x.of(0, 2), 31 >> day);
            x.cook();
            x.come(0);
            x.close();
        }
        Due.is("11: of(0, 5)", x.of(0, 5), 5);
    }

    /** This takes more calls than the document promises answers for; the bound is kept all the same. */
    private static void lastDay() {
        CanteenPlates x = Look.after("p");
        for (int day = 0; day < 9999; day++) {
            x.cook();
            x.close();
        }
        Due.is("11: count(0)", x.count(0), 9999);
        Due.is("11: order(0, 4, 0)", x.order(0, 4, 0), 4);
        x.cook();
        Due.is("11: close(), the day would be 10000", x.close(), Look.NOT_POSSIBLE);
        Due.is("11: count(2)", x.count(2), 1);
    }

    /** Calls that fail leave all as it is, the history too. */
    private static void failedChangesChangeNothing() {
        String[] runs = {"p;p;o0a;o1b+1;o1c", "p;p;o0a;o0b+1;k;c0", "p;p;o0a;k;x;o0a;k;x;o0a;k;x;k"};
        for (String run : runs) {
            CanteenPlates twin = Look.after(run);
            CanteenPlates x = Look.after(run);
            failAll(x);
            Due.same("failed calls behind " + run, Look.atAll(x), Look.atAll(twin));
        }
    }

    private static void failAll(CanteenPlates x) {
        boolean cooked = x.count(2) == 1;
        x.set(4, 1);
        x.set(0, 10);
        x.price(5, 0, 2);
        x.price(0, 3, 2);
        x.price(0, 0, 4);
        x.vouchers(2, 3);
        x.vouchers(0, 31);
        x.order(2, 0, 0);
        x.order(0, 5, 0);
        x.order(0, 0, 0);
        x.callOff(0, 0);
        x.callOff(0, 4);
        x.callOff(2, 1);
        x.come(0);
        x.come(2);
        x.buy(0, 3);
        x.buy(2, 0);
        if (cooked) {
            x.cook();
        } else {
            x.close();
            x.buy(0, 0);
        }
        x.restore(0);
        x.restore(2);
        x.save(2);
        x.carryOut();
        x.put(0);
    }
}
