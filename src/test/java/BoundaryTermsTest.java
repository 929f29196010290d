/** The boundaries that the document's "Terms" name up to the days, dishes and people: a method for each sentence. */
public final class BoundaryTermsTest {
    public static void main(String[] args) {
        fiveHundredTwelveCalls();
        errorsChangeNothing();
        firstErrorOfSeveral();
        noneOnlyWithoutErrors();
        numberedFromZero();
        roundedDown();
        bitMasks();
        spare();
        keep();
        strikes();
        ban();
        weekdays();
        dishesAndPrices();
        fourteenPeople();
        vouchersFromZeroToThirty();
        oneOrderForEachDay();
        thirtyVouchersAtMost();
        Due.end();
    }

    private static void fiveHundredTwelveCalls() {
        Due.sentence("An object is used for at most 512 calls after it has been made");
        // All of them changes; all of them texts that are carried out; all of them days.
        CanteenPlates x = new CanteenPlates();
        for (int call = 0; call < 512; call++) {
            Due.is("set() in call " + call, x.set(CanteenPlates.KEEP, call % 21), call == 0 ? 4 : (call - 1) % 21);
        }
        CanteenPlates y = new CanteenPlates();
        for (int call = 0; call < 512; call += 2) {
            Due.is("put() in call " + call, y.put(Look.packed("k;x;k;x")), 7);
            Due.is("carryOut() in call " + (call + 1), y.carryOut(), 4);
        }
        Due.is("count(0)", y.count(0), 512);
        CanteenPlates z = Look.with(9, 0, 9, 1);
        for (int call = 4; call < 512; call += 2) {
            Due.is("cook() in call " + call, z.cook(), 27);
            Due.is("close() in call " + (call + 1), z.close(), 0);
        }
        Due.is("count(5)", z.count(5), 27 * 254);
    }

    /** Calls that fail in any of the states below, each with the error that it has to return. */
    private static final int[] FAILING_ERRORS = {
        Look.BAD_VALUE, Look.BAD_VALUE, Look.NO_SUCH, Look.NO_SUCH, Look.BAD_VALUE, Look.NO_SUCH, Look.BAD_VALUE,
        Look.NO_SUCH, Look.NO_SUCH, Look.BAD_VALUE, Look.NOT_POSSIBLE, Look.NO_SUCH, Look.BAD_VALUE, Look.NOT_POSSIBLE,
        Look.NO_SUCH, Look.NOT_POSSIBLE, Look.NO_SUCH, Look.NO_SUCH, Look.NOT_POSSIBLE, Look.NOT_POSSIBLE,
        Look.BAD_VALUE, Look.BAD_TEXT, Look.BAD_VALUE, Look.BAD_VALUE, Look.NOT_POSSIBLE};

    private static int fail(CanteenPlates x, int which) {
        boolean cooked = x.count(2) == 1;
        switch (which) {
            case 0:
                return x.set(4, 1);
            case 1:
                return x.set(CanteenPlates.STRIKES, 0);
            case 2:
                return x.price(5, 0, 2);
            case 3:
                return x.price(0, 3, 2);
            case 4:
                return x.price(0, 0, 4);
            case 5:
                return x.vouchers(3, 1);
            case 6:
                return x.vouchers(0, 31);
            case 7:
                return x.order(3, 1, 0);
            case 8:
                return x.order(0, 1, 3);
            case 9:
                return x.order(0, 5, 0);
            case 10:
                return x.order(0, 0, 1);
            default:
                return failBehindOrder(x, which, cooked);
        }
    }

    private static int failBehindOrder(CanteenPlates x, int which, boolean cooked) {
        switch (which) {
            case 11:
                return x.callOff(3, 1);
            case 12:
                return x.callOff(0, 0);
            case 13:
                return x.callOff(0, 4);
            case 14:
                return x.come(3);
            case 15:
                return x.come(2);
            case 16:
                return x.buy(3, 0);
            case 17:
                return x.buy(0, 3);
            case 18:
                return x.buy(0, 0);
            case 19:
                return cooked ? x.cook() : x.close();
            case 20:
                return x.put(0);
            case 21:
                return x.carryOut();
            case 22:
                return x.save(2);
            case 23:
                return x.restore(2);
            default:
                return x.restore(1);
        }
    }

    private static void errorsChangeNothing() {
        Due.sentence("A call that returns an error changes nothing.");
        String[] states = {"p;p;p;o0a;o1b+1", "p;p;p;o0a;o1b+1;k", "p;p;p;o0a;o1b;k;c0", "p;p;p;o0a;k;x;o0a"};
        for (String state : states) {
            for (int which = 0; which < FAILING_ERRORS.length; which++) {
                CanteenPlates x = behind(state);
                CanteenPlates twin = behind(state);
                Due.is("behind " + state + ", failing call " + which, fail(x, which), FAILING_ERRORS[which]);
                Due.same("behind " + state + " and failing call " + which + ", all", Look.atAll(x), Look.atAll(twin));
                Due.is("price(0, 0, 1) behind failing call " + which, x.price(0, 0, 1), 1);
                x.undo();
                Due.is("undo() behind failing call " + which, x.undo(), twin.undo());
                Due.same("the state before, behind failing call " + which, Look.atState(x), Look.atState(twin));
            }
        }
        tooManyChangesNothing();
        nothingToUndoChangesNothing();
    }

    private static CanteenPlates behind(String state) {
        CanteenPlates x = Look.after(state);
        x.save(0);
        Look.write(x, "p;k;?");
        return x;
    }

    private static void tooManyChangesNothing() {
        CanteenPlates x = new CanteenPlates();
        Look.people(x, 14);
        for (int times = 0; times < 10; times++) {
            x.put(Look.packed("k;x;k;x;"));
        }
        String before = Look.atAll(x);
        Due.is("person() for the fifteenth", x.person(), Look.TOO_MANY);
        Due.is("put() of the 81st", x.put('k'), Look.TOO_MANY);
        Due.same("all behind TOO_MANY", Look.atAll(x), before);
        Due.is("undo()", x.undo(), 5);
        Due.is("count(1)", x.count(1), 13);
    }

    private static void nothingToUndoChangesNothing() {
        CanteenPlates x = new CanteenPlates();
        x.person();
        x.undo();
        String before = Look.atAll(x);
        Due.is("undo() of nothing", x.undo(), Look.NOT_POSSIBLE);
        Due.same("all behind undo() of nothing", Look.atAll(x), before);
    }

    private static void firstErrorOfSeveral() {
        Due.sentence("it names its errors in the order in which they are checked, and the first one that applies is returned");
        // Person 0 has no vouchers and the day is cooked; nothing is saved; the pad is full.
        CanteenPlates x = Look.after("p;o0a;o0a+1;o0a+2;o0a+3;o0a+4;k");
        for (int times = 0; times < 10; times++) {
            x.put(Look.packed("k;x;k;x;"));
        }
        Due.is("price(5, 0, 0)", x.price(5, 0, 0), Look.NO_SUCH);
        Due.is("price(0, 3, 4)", x.price(0, 3, 4), Look.NO_SUCH);
        Due.is("vouchers(1, 0)", x.vouchers(1, 0), Look.NO_SUCH);
        Due.is("order(1, 5, 0)", x.order(1, 5, 0), Look.NO_SUCH);
        Due.is("order(0, 5, 3)", x.order(0, 5, 3), Look.NO_SUCH);
        Due.is("order(0, 0, 3)", x.order(0, 0, 3), Look.NO_SUCH);
        Due.is("order(0, 5, 0)", x.order(0, 5, 0), Look.BAD_VALUE);
        Due.is("order(0, -1, 0)", x.order(0, -1, 0), Look.BAD_VALUE);
        Due.is("callOff(1, 0)", x.callOff(1, 0), Look.NO_SUCH);
        Due.is("callOff(0, 5)", x.callOff(0, 5), Look.BAD_VALUE);
        Due.is("come(1)", new CanteenPlates().come(1), Look.NO_SUCH);
        Due.is("buy(1, 0)", new CanteenPlates().buy(1, 0), Look.NO_SUCH);
        Due.is("buy(0, 3)", x.buy(0, 3), Look.NO_SUCH);
        Due.is("of(1, 9)", x.of(1, 9), Look.NO_SUCH);
        Due.is("ofDish(3, 8)", x.ofDish(3, 8), Look.NO_SUCH);
        Due.is("ordered(5, 3)", x.ordered(5, 3), Look.NO_SUCH);
        Due.is("why(1, 5, 0)", x.why(1, 5, 0), Look.NO_SUCH);
        Due.is("why(0, 5, 3)", x.why(0, 5, 3), Look.NO_SUCH);
        Due.is("why(0, 5, 0)", x.why(0, 5, 0), Look.BAD_VALUE);
        Due.is("put(32)", x.put(32), Look.BAD_VALUE);
        Due.is("put('k')", x.put('k'), Look.TOO_MANY);
        Due.is("restore(2)", x.restore(2), Look.BAD_VALUE);
        Due.is("restore(1)", x.restore(1), Look.NOT_POSSIBLE);
    }

    private static void noneOnlyWithoutErrors() {
        Due.sentence("NONE (-6) is not an error; it is returned only if no error applies.");
        CanteenPlates x = new CanteenPlates();
        Due.is("unsurest(0)", x.unsurest(0), -6);
        Due.is("unsurest(2)", x.unsurest(2), Look.BAD_VALUE);
        Due.is("of(0, 1)", x.of(0, 1), Look.NO_SUCH);
        Due.is("firstOrder(0)", x.firstOrder(0), Look.NO_SUCH);
        x.person();
        Due.is("of(0, 1)", x.of(0, 1), -6);
    }

    private static void numberedFromZero() {
        Due.sentence("Everything is numbered from 0.");
        CanteenPlates x = new CanteenPlates();
        Due.is("person()", x.person(), 0);
        Due.is("price(0, 0, 2)", x.price(0, 0, 2), 1);
        Due.is("set(0, 0)", x.set(0, 0), 1);
        Due.is("save(0)", x.save(0), 1);
        Due.is("order(0, 0, 0)", x.order(0, 0, 0), 3);
        Due.is("of(0, 1)", x.of(0, 1), 0);
        Due.is("of(0, 2)", x.of(0, 2), 1);
        Due.is("ordered(0, 0)", x.ordered(0, 0), 1);
        Due.is("count(0)", x.count(0), 0);
        Look.write(x, "?");
        Due.is("fault()", x.fault(), 0);
    }

    /** Doubts of 1 of 3, 2 of 3, 1 of 7 and 6 of 7. */
    private static void roundedDown() {
        Due.sentence("Divisions are rounded down.");
        int[][] cases = {{1, 2, 33}, {2, 1, 66}, {1, 6, 14}, {6, 1, 85}, {1, 1, 50}, {1, 0, 100}, {1, 7, 12}};
        for (int[] some : cases) {
            CanteenPlates x = Look.with(0, 0, 9, 1);
            x.person();
            x.vouchers(0, 30);
            Look.days(x, some[0], 0, false);
            Look.days(x, some[1], 0, true);
            Due.is("unsurest(1), away " + some[0] + ", come " + some[1], x.unsurest(1), some[2]);
        }
    }

    private static void bitMasks() {
        Due.sentence("Sets of people and dishes are bit masks.");
        CanteenPlates x = Look.with(1, 4, 1, 5);
        Look.people(x, 14);
        int set = 0;
        for (int person = 13; person >= 0; person--) {
            x.order(person, 0, person % 2);
            set |= person % 2 == 1 ? 1 << person : 0;
            Due.is("ordered(0, 1) behind order(" + person + ", 0, ..)", x.ordered(0, 1), set);
        }
        Due.is("ordered(0, 0)", x.ordered(0, 0), 0x1555);
        Look.carryOut(x, "k;c0;c13;x");
        Due.is("count(8)", x.count(8), 0x1FFE);
    }

    private static void spare() {
        Due.sentence("SPARE (0 to 9; 1): plates of each dish that are cooked beyond what is expected");
        Due.is("count(10) at first", new CanteenPlates().count(10), 1);
        Due.is("cook() at first", new CanteenPlates().cook(), 3);
        range(CanteenPlates.SPARE, 0, 9);
        for (int spare = 0; spare <= 9; spare++) {
            CanteenPlates x = Look.with(spare, 4, 3, 5);
            Look.carryOut(x, "p;o0b");
            Due.is("cook() with SPARE " + spare, x.cook(), 3 * spare + 1);
            Due.is("ofDish(1, 1) with SPARE " + spare, x.ofDish(1, 1), spare + 1);
        }
    }

    /** 14 orders and 9 spare plates are 23 of dish 0; the others are 9. */
    private static void keep() {
        Due.sentence("KEEP (0 to 20; 4): plates of each dish that are kept at most");
        Due.is("count(11) at first", new CanteenPlates().count(11), 4);
        range(CanteenPlates.KEEP, 0, 20);
        for (int keep = 0; keep <= 20; keep++) {
            CanteenPlates x = Look.with(9, keep, 3, 5);
            Look.people(x, 14);
            for (int person = 0; person < 14; person++) {
                x.order(person, 0, 0);
            }
            Due.is("cook()", x.cook(), 41);
            x.close();
            Due.is("ofDish(0, 0) with KEEP " + keep, x.ofDish(0, 0), keep);
            Due.is("ofDish(0, 5) with KEEP " + keep, x.ofDish(0, 5), 23 - keep);
            Due.is("ofDish(2, 0) with KEEP " + keep, x.ofDish(2, 0), Math.min(9, keep));
            Due.is("ofDish(2, 5) with KEEP " + keep, x.ofDish(2, 5), 9 - Math.min(9, keep));
        }
    }

    private static void strikes() {
        Due.sentence("STRIKES (1 to 9; 3): times to stay away behind which one may not order");
        Due.is("count(12) at first", new CanteenPlates().count(12), 3);
        range(CanteenPlates.STRIKES, 1, 9);
        for (int strikes = 1; strikes <= 9; strikes++) {
            CanteenPlates x = Look.with(1, 4, strikes, 5);
            x.person();
            x.vouchers(0, 30);
            Look.days(x, strikes - 1, 0, false);
            Due.is("of(0, 4), one strike fewer than " + strikes, x.of(0, 4), 0);
            Due.is("of(0, 3), one strike fewer than " + strikes, x.of(0, 3), strikes - 1);
            Look.days(x, 1, 0, false);
            Due.is("of(0, 4) with STRIKES " + strikes, x.of(0, 4), strikes + 5);
        }
    }

    private static void ban() {
        Due.sentence("BAN (1 to 20; 5): days for which one may not.");
        Due.is("count(13) at first", new CanteenPlates().count(13), 5);
        range(CanteenPlates.BAN, 1, 20);
        for (int ban = 1; ban <= 20; ban++) {
            CanteenPlates x = Look.with(0, 0, 1, ban);
            Look.carryOut(x, "p;o0a;k;x");
            for (int banned = 0; banned < ban; banned++) {
                Due.is("count(8), BAN " + ban + ", banned for " + banned + " days", x.count(8), 1);
                Look.days(x, 1);
            }
            Due.is("count(8) behind all days of BAN " + ban, x.count(8), 0);
            Due.is("order(0, 0, 0) behind all days of BAN " + ban, x.order(0, 0, 0), 3);
        }
    }

    private static void range(int setting, int low, int high) {
        for (int value = low - 30; value <= high + 30; value++) {
            CanteenPlates x = new CanteenPlates();
            int first = x.count(10 + setting);
            boolean good = value >= low && value <= high;
            Due.is("set(" + setting + ", " + value + ")", x.set(setting, value), good ? first : Look.BAD_VALUE);
            Due.is("count(" + (10 + setting) + ")", x.count(10 + setting), good ? value : first);
        }
    }

    private static void weekdays() {
        Due.sentence("The day is 0 at first; its weekday is the day left over by 5.");
        CanteenPlates x = new CanteenPlates();
        int[] prices = {2, 1, 3, 1, 2};
        for (int weekday = 0; weekday < 5; weekday++) {
            x.price(weekday, 1, prices[weekday]);
        }
        x.person();
        for (int day = 0; day < 16; day++) {
            Due.is("count(0)", x.count(0), day);
            Due.is("ofDish(1, 6) on day " + day, x.ofDish(1, 6), prices[day % 5]);
            for (int ahead = 0; ahead < 5; ahead++) {
                x.vouchers(0, 30);
                Due.is("order(0, " + ahead + ", 1) on day " + day, x.order(0, ahead, 1), 30 - prices[(day + ahead) % 5]);
                x.undo();
            }
            Look.days(x, 1);
        }
    }

    private static void dishesAndPrices() {
        Due.sentence("There are 3 dishes, 0 to 2, each with a price for each weekday, 1 to 3 vouchers (1 at first).");
        for (int weekday = -1; weekday <= 5; weekday++) {
            for (int dish = -1; dish <= 3; dish++) {
                boolean there = weekday >= 0 && weekday < 5 && dish >= 0 && dish < 3;
                for (int price = -1; price <= 5; price++) {
                    int due = !there ? Look.NO_SUCH : price < 1 || price > 3 ? Look.BAD_VALUE : 1;
                    Due.is("price(" + weekday + ", " + dish + ", " + price + ")",
                        new CanteenPlates().price(weekday, dish, price), due);
                }
            }
        }
    }

    private static void fourteenPeople() {
        Due.sentence("There are up to 14 people, numbered in the order in which they came");
        CanteenPlates x = new CanteenPlates();
        for (int person = 0; person < 14; person++) {
            Due.is("person()", x.person(), person);
            x.vouchers(person, person + 1);
        }
        Due.is("person()", x.person(), Look.TOO_MANY);
        for (int person = 0; person < 14; person++) {
            Due.is("of(" + person + ", 0)", x.of(person, 0), person + 6);
        }
        Due.is("of(14, 0)", x.of(14, 0), Look.NO_SUCH);
    }

    private static void vouchersFromZeroToThirty() {
        Due.sentence("each with vouchers, 0 to 30 (5 at first)");
        CanteenPlates x = Look.after("p");
        Due.is("of(0, 0)", x.of(0, 0), 5);
        for (int ahead = 0; ahead < 5; ahead++) {
            Due.is("order(0, " + ahead + ", 0)", x.order(0, ahead, 0), 4 - ahead);
        }
        x.cook();
        x.close();
        Due.is("of(0, 0)", x.of(0, 0), 0);
        Due.is("why(0, 4, 0) with no voucher", x.why(0, 4, 0), 4);
        Due.is("order(0, 4, 0) with no voucher", x.order(0, 4, 0), Look.NOT_POSSIBLE);
        Due.is("of(0, 0)", x.of(0, 0), 0);
        Due.is("vouchers(0, 30)", x.vouchers(0, 30), 30);
        Due.is("vouchers(0, 1)", x.vouchers(0, 1), 30);
    }

    private static void oneOrderForEachDay() {
        Due.sentence("A person can order a dish for today or one of the 4 days ahead, one for each day, and pays its price of "
            + "that weekday at once.");
        CanteenPlates x = Look.after("p;v0+30");
        x.price(0, 0, 2);
        x.price(4, 0, 3);
        int[] left = {28, 27, 26, 25, 22};
        for (int ahead = 0; ahead < 5; ahead++) {
            Due.is("order(0, " + ahead + ", 0)", x.order(0, ahead, 0), left[ahead]);
            Due.is("order(0, " + ahead + ", 0) again", x.order(0, ahead, 0), Look.NOT_POSSIBLE);
            Due.is("order(0, " + ahead + ", 2), another dish", x.order(0, ahead, 2), Look.NOT_POSSIBLE);
            Due.is("of(0, 0), it is paid at once", x.of(0, 0), left[ahead]);
        }
        Due.is("order(0, 5, 0)", x.order(0, 5, 0), Look.BAD_VALUE);
        Due.is("of(0, 2)", x.of(0, 2), 31);
        Look.days(x, 1);
        Due.is("of(0, 2) on the next day", x.of(0, 2), 15);
        Due.is("order(0, 4, 0) on the next day", x.order(0, 4, 0), 20);
    }

    private static void thirtyVouchersAtMost() {
        Due.sentence("An order of a day ahead can be called off, with what was paid given back; more than 30 vouchers nobody "
            + "has: what is above is lost.");
        for (int before = 24; before <= 30; before++) {
            CanteenPlates x = Look.after("p");
            x.price(1, 0, 3);
            x.order(0, 1, 0);
            x.vouchers(0, before - 2);
            Due.is("of(0, 0)", x.of(0, 0), before);
            Due.is("callOff(0, 1) with " + before, x.callOff(0, 1), Math.min(30, before + 3));
            CanteenPlates y = Look.after("p");
            y.vouchers(0, before - 5);
            Due.is("vouchers(0, 3) with " + before, y.vouchers(0, 3), Math.min(30, before + 3));
        }
        CanteenPlates z = Look.with(0, 0, 9, 1);
        z.price(1, 0, 3);
        Look.carryOut(z, "p;o0a;k;x;o0a;k;v0+28");
        Due.is("of(0, 0)", z.of(0, 0), 29);
        Due.is("come(0) for no plate", z.come(0), 3);
        Due.is("of(0, 0)", z.of(0, 0), 30);
    }
}
