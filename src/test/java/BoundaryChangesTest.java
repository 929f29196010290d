/** The boundaries that the document's promises 1 to 11 name: a method for each sentence. */
public final class BoundaryChangesTest {
    private static final int LEAST = Integer.MIN_VALUE, MOST = Integer.MAX_VALUE;

    public static void main(String[] args) {
        newObject();
        set();
        price();
        priceRange();
        paidOrdersStay();
        person();
        vouchersAtMost();
        vouchersErrors();
        vouchersMany();
        orderErrors();
        orderAhead();
        orderAsWhyTells();
        callOffRange();
        callOffErrors();
        cook();
        comeForNoPlate();
        comeErrors();
        buyErrors();
        buyNotPossible();
        close();
        lastDay();
        Due.end();
    }

    private static void newObject() {
        Due.sentence("Creates a canteen without people, in the day 0.");
        CanteenPlates x = new CanteenPlates();
        Due.is("count(0)", x.count(0), 0);
        Due.is("count(1)", x.count(1), 0);
        Due.is("count(2)", x.count(2), 0);
        Due.is("count(6)", x.count(6), 0);
        Due.is("count(7)", x.count(7), 0);
        Due.is("count(14)", x.count(14), 0);
        Due.is("count(15)", x.count(15), 0);
        Due.is("of(0, 0)", x.of(0, 0), Look.NO_SUCH);
        x.person();
        Due.is("count(1) of another object", new CanteenPlates().count(1), 0);
    }

    private static void set() {
        Due.sentence("BAD_VALUE if there is no such setting, or the value is out of its range.");
        int[] low = {0, 0, 1, 1};
        int[] high = {9, 20, 9, 20};
        for (int setting : new int[] {LEAST, -2, -1, 4, 5, 10, MOST}) {
            Due.is("set(" + setting + ", 1)", new CanteenPlates().set(setting, 1), Look.BAD_VALUE);
        }
        for (int setting = 0; setting < 4; setting++) {
            CanteenPlates x = new CanteenPlates();
            for (int bad : new int[] {LEAST, -1, low[setting] - 1, high[setting] + 1, MOST}) {
                Due.is("set(" + setting + ", " + bad + ")", x.set(setting, bad), Look.BAD_VALUE);
            }
            x.set(setting, low[setting]);
            Due.is("set() from the lowest to the highest", x.set(setting, high[setting]), low[setting]);
            Due.is("set() from the highest to the lowest", x.set(setting, low[setting]), high[setting]);
            Due.is("set() to the same", x.set(setting, low[setting]), low[setting]);
        }
    }

    private static void price() {
        Due.sentence("NO_SUCH if there is no such weekday (0 to 4) or dish; BAD_VALUE if price is out of range.");
        CanteenPlates x = new CanteenPlates();
        for (int bad : new int[] {LEAST, -1, 5, MOST}) {
            Due.is("price(" + bad + ", 0, 1)", x.price(bad, 0, 1), Look.NO_SUCH);
        }
        for (int bad : new int[] {LEAST, -1, 3, MOST}) {
            Due.is("price(0, " + bad + ", 1)", x.price(0, bad, 1), Look.NO_SUCH);
        }
        for (int bad : new int[] {LEAST, -1, 0, 4, MOST}) {
            Due.is("price(4, 2, " + bad + ")", x.price(4, 2, bad), Look.BAD_VALUE);
        }
        Due.is("price(4, 2, 3)", x.price(4, 2, 3), 1);
        Due.is("price(4, 2, 1)", x.price(4, 2, 1), 3);
        Due.is("price(0, 0, 2)", x.price(0, 0, 2), 1);
    }

    private static void priceRange() {
        Due.sentence("price: 1 to 3");
        for (int price = -2; price <= 6; price++) {
            CanteenPlates x = new CanteenPlates();
            boolean good = price >= 1 && price <= 3;
            Due.is("price(0, 1, " + price + ")", x.price(0, 1, price), good ? 1 : Look.BAD_VALUE);
            Due.is("ofDish(1, 6)", x.ofDish(1, 6), good ? price : 1);
        }
    }

    private static void paidOrdersStay() {
        Due.sentence("Changes the price of a dish on a weekday (orders that were paid stay).");
        CanteenPlates x = Look.after("p;o0b+1;o0c");
        x.price(1, 1, 3);
        x.price(0, 2, 3);
        Due.is("of(0, 0)", x.of(0, 0), 3);
        Due.is("ordered(1, 1)", x.ordered(1, 1), 1);
        Due.is("why(0, 1, 1)", x.why(0, 1, 1), 3);
        Due.is("callOff(0, 1)", x.callOff(0, 1), 4);
        x.cook();
        Due.is("come(0)", x.come(0), 2);
        Due.is("of(0, 0)", x.of(0, 0), 4);
    }

    private static void person() {
        Due.sentence("Returns the number; TOO_MANY if there are 14 people.");
        CanteenPlates x = new CanteenPlates();
        for (int person = 0; person < 14; person++) {
            Due.is("person() with " + person, x.person(), person);
        }
        Due.is("person() with 14", x.person(), Look.TOO_MANY);
        x.undo();
        Due.is("person() with 13 again", x.person(), 13);
        Due.is("person() with 14 again", x.person(), Look.TOO_MANY);
    }

    private static void vouchersAtMost() {
        Due.sentence("Returns the vouchers then (30 at most)");
        for (int many = 1; many <= 30; many++) {
            CanteenPlates x = Look.after("p");
            Due.is("vouchers(0, " + many + ")", x.vouchers(0, many), Math.min(30, 5 + many));
            Due.is("of(0, 0)", x.of(0, 0), Math.min(30, 5 + many));
        }
    }

    private static void vouchersErrors() {
        Due.sentence("NO_SUCH if there is no such person; BAD_VALUE if many is out of range.");
        CanteenPlates x = Look.after("p");
        for (int bad : new int[] {LEAST, -1, 1, 13, 14, MOST}) {
            Due.is("vouchers(" + bad + ", 1)", x.vouchers(bad, 1), Look.NO_SUCH);
        }
        for (int bad : new int[] {LEAST, -1, 0, 31, MOST}) {
            Due.is("vouchers(0, " + bad + ")", x.vouchers(0, bad), Look.BAD_VALUE);
        }
        Due.is("vouchers(0, 1)", x.vouchers(0, 1), 6);
        Due.is("vouchers(0, 30)", x.vouchers(0, 30), 30);
    }

    private static void vouchersMany() {
        Due.sentence("many: 1 to 30");
        for (int many = -2; many <= 33; many++) {
            boolean good = many >= 1 && many <= 30;
            CanteenPlates x = Look.after("p;o0a;o0a+1;o0a+2;o0a+3;o0a+4");
            Due.is("vouchers(0, " + many + ") with none", x.vouchers(0, many), good ? many : Look.BAD_VALUE);
            Due.is("of(0, 0)", x.of(0, 0), good ? many : 0);
        }
    }

    private static void orderErrors() {
        Due.sentence("NO_SUCH if there is no such person or dish; BAD_VALUE if ahead is out of range; NOT_POSSIBLE if it cannot "
            + "be, as why() tells.");
        CanteenPlates x = Look.after("p");
        for (int bad : new int[] {LEAST, -1, 1, 13, 14, MOST}) {
            Due.is("order(" + bad + ", 0, 0)", x.order(bad, 0, 0), Look.NO_SUCH);
        }
        for (int bad : new int[] {LEAST, -1, 3, MOST}) {
            Due.is("order(0, 0, " + bad + ")", x.order(0, 0, bad), Look.NO_SUCH);
        }
        for (int bad : new int[] {LEAST, -1, 5, MOST}) {
            Due.is("order(0, " + bad + ", 0)", x.order(0, bad, 0), Look.BAD_VALUE);
        }
        Due.is("order(0, 0, 2)", x.order(0, 0, 2), 4);
        Due.is("order(0, 4, 0)", x.order(0, 4, 0), 3);
    }

    private static void orderAhead() {
        Due.sentence("ahead: 0 for today, to 4");
        for (int ahead = -2; ahead <= 7; ahead++) {
            boolean good = ahead >= 0 && ahead <= 4;
            CanteenPlates x = Look.after("p");
            Due.is("order(0, " + ahead + ", 1)", x.order(0, ahead, 1), good ? 4 : Look.BAD_VALUE);
            Due.is("of(0, 2)", x.of(0, 2), good ? 1 << ahead : 0);
            Due.is("ordered(" + ahead + ", 1)", x.ordered(ahead, 1), good ? 1 : Look.BAD_VALUE);
        }
    }

    /** For each reason of why() an order that it forbids. */
    private static void orderAsWhyTells() {
        Due.sentence("NOT_POSSIBLE if it cannot be, as why() tells.");
        CanteenPlates x = Look.with(1, 4, 1, 2);
        Look.carryOut(x, "p;p;o0a;k;x;o1a+1;k");
        int[][] orders = {{1, 0, 0, 1}, {0, 1, 0, 2}, {0, 2, 0, 0}, {1, 1, 2, 3}, {1, 2, 0, 0}};
        for (int[] some : orders) {
            String call = "(" + some[0] + ", " + some[1] + ", " + some[2] + ")";
            Due.is("why" + call, x.why(some[0], some[1], some[2]), some[3]);
            int answer = x.order(some[0], some[1], some[2]);
            Due.is("order" + call, Math.min(0, answer), some[3] == 0 ? 0 : Look.NOT_POSSIBLE);
        }
        x.price(0, 1, 3);
        Look.carryOut(x, "o1a+3");
        Due.is("of(1, 0)", x.of(1, 0), 2);
        Due.is("why(1, 4, 1), two vouchers for three", x.why(1, 4, 1), 4);
        Due.is("order(1, 4, 1)", x.order(1, 4, 1), Look.NOT_POSSIBLE);
        x.price(0, 1, 2);
        Due.is("order(1, 4, 1), two vouchers for two", x.order(1, 4, 1), 0);
    }

    private static void callOffRange() {
        Due.sentence("ahead: 1 to 4");
        for (int ahead = -1; ahead <= 6; ahead++) {
            CanteenPlates x = Look.after("p;o0a;o0a+1;o0a+2;o0a+3;o0a+4");
            boolean good = ahead >= 1 && ahead <= 4;
            Due.is("callOff(0, " + ahead + ")", x.callOff(0, ahead), good ? 1 : Look.BAD_VALUE);
            Due.is("of(0, 2) behind callOff(0, " + ahead + ")", x.of(0, 2), good ? 31 - (1 << ahead) : 31);
        }
    }

    private static void callOffErrors() {
        Due.sentence("NO_SUCH if there is no such person; BAD_VALUE if ahead is out of range; NOT_POSSIBLE if there is no such "
            + "order.");
        CanteenPlates x = Look.after("p;p;o0a+2;o1a+1");
        for (int bad : new int[] {LEAST, -1, 2, 13, 14, MOST}) {
            Due.is("callOff(" + bad + ", 2)", x.callOff(bad, 2), Look.NO_SUCH);
        }
        for (int bad : new int[] {LEAST, -1, 0, 5, MOST}) {
            Due.is("callOff(0, " + bad + ")", x.callOff(0, bad), Look.BAD_VALUE);
        }
        for (int without : new int[] {1, 3, 4}) {
            Due.is("callOff(0, " + without + ")", x.callOff(0, without), Look.NOT_POSSIBLE);
        }
        Due.is("callOff(0, 2)", x.callOff(0, 2), 5);
        Due.is("callOff(0, 2) again", x.callOff(0, 2), Look.NOT_POSSIBLE);
        Due.is("order(0, 2, 1) again", x.order(0, 2, 1), 4);
        Due.is("callOff(0, 2) once more", x.callOff(0, 2), 5);
        x.cook();
        Due.is("callOff(1, 1) behind the cooking", x.callOff(1, 1), 5);
    }

    private static void cook() {
        Due.sentence("Returns how many plates; NOT_POSSIBLE if it has cooked today.");
        CanteenPlates x = Look.with(0, 0, 9, 1);
        for (int day = 0; day < 3; day++) {
            Due.is("cook() of nothing", x.cook(), 0);
            Due.is("cook() again, also behind nothing", x.cook(), Look.NOT_POSSIBLE);
            x.close();
        }
        CanteenPlates y = Look.with(9, 0, 9, 1);
        Look.people(y, 14);
        for (int person = 0; person < 14; person++) {
            y.order(person, 0, 2);
        }
        Due.is("cook() of the most there can be", y.cook(), 41);
        Due.is("ofDish(2, 1)", y.ofDish(2, 1), 23);
    }

    private static void comeForNoPlate() {
        Due.sentence("Returns the dish that the person gets; 3 if there is no plate of it left, and what was paid is given back");
        for (int dish = 0; dish < 3; dish++) {
            CanteenPlates x = Look.after("p");
            x.order(0, 0, dish);
            x.cook();
            Due.is("come(0) for dish " + dish, x.come(0), dish);
            Due.is("of(0, 0)", x.of(0, 0), 4);
        }
        // Two stayed away from one of two each, so that one plate is cooked for both.
        CanteenPlates y = Look.with(0, 0, 9, 1);
        Look.people(y, 2);
        for (int person = 0; person < 2; person++) {
            Look.days(y, 1, person, true);
            Look.days(y, 1, person, false);
        }
        Look.carryOut(y, "o0b;o1b;k");
        Due.is("come(1), the last plate", y.come(1), 1);
        Due.is("of(1, 0)", y.of(1, 0), 2);
        Due.is("come(0), none left", y.come(0), 3);
        Due.is("of(0, 0)", y.of(0, 0), 3);
        Due.is("of(0, 8)", y.of(0, 8), 1);
    }

    private static void comeErrors() {
        Due.sentence("NO_SUCH if there is no such person; NOT_POSSIBLE if nothing was cooked yet, there is no order for today, or "
            + "the person has come today.");
        CanteenPlates x = Look.after("p;p;p;o0a;o1a+1");
        Due.is("come(0), nothing was cooked yet", x.come(0), Look.NOT_POSSIBLE);
        x.cook();
        for (int bad : new int[] {LEAST, -1, 3, 13, 14, MOST}) {
            Due.is("come(" + bad + ")", x.come(bad), Look.NO_SUCH);
        }
        Due.is("come(1), the order is for tomorrow", x.come(1), Look.NOT_POSSIBLE);
        Due.is("come(2), there is no order", x.come(2), Look.NOT_POSSIBLE);
        Due.is("come(0)", x.come(0), 0);
        Due.is("come(0), has come", x.come(0), Look.NOT_POSSIBLE);
        x.close();
        Due.is("come(1), nothing was cooked on that day yet", x.come(1), Look.NOT_POSSIBLE);
        x.cook();
        Due.is("come(1)", x.come(1), 0);
        Due.is("come(0), the order was for yesterday", x.come(0), Look.NOT_POSSIBLE);
    }

    private static void buyErrors() {
        Due.sentence("Returns the vouchers then; NO_SUCH if there is no such person or dish; NOT_POSSIBLE if nothing was cooked "
            + "yet");
        CanteenPlates x = Look.after("p;p;k");
        for (int bad : new int[] {LEAST, -1, 2, 13, 14, MOST}) {
            Due.is("buy(" + bad + ", 0)", x.buy(bad, 0), Look.NO_SUCH);
        }
        for (int bad : new int[] {LEAST, -1, 3, MOST}) {
            Due.is("buy(0, " + bad + ")", x.buy(0, bad), Look.NO_SUCH);
        }
        Due.is("buy(0, 0)", x.buy(0, 0), 3);
        Due.is("buy(1, 2)", x.buy(1, 2), 3);
        x.close();
        // A plate of dish 1 is kept, but nothing was cooked yet.
        Due.is("ofDish(1, 0)", x.ofDish(1, 0), 1);
        Due.is("buy(0, 1)", x.buy(0, 1), Look.NOT_POSSIBLE);
        x.cook();
        Due.is("buy(0, 1)", x.buy(0, 1), 1);
    }

    private static void buyNotPossible() {
        Due.sentence("there is an order for today, the person has come today, has too few vouchers, or too few plates of it are "
            + "left.");
        CanteenPlates x = Look.with(3, 4, 9, 1);
        x.price(0, 0, 3);
        Look.carryOut(x, "p;p;p;p;o0b;o2a+1;o2a+2;k");
        Due.is("buy(0, 0), there is an order", x.buy(0, 0), Look.NOT_POSSIBLE);
        Due.is("come(0)", x.come(0), 1);
        Due.is("buy(0, 0), has come with it", x.buy(0, 0), Look.NOT_POSSIBLE);
        Due.is("buy(1, 2)", x.buy(1, 2), 3);
        Due.is("buy(1, 2), has come for one", x.buy(1, 2), Look.NOT_POSSIBLE);
        Due.is("buy(2, 0), three vouchers for four", x.buy(2, 0), Look.NOT_POSSIBLE);
        Due.is("buy(2, 2), three vouchers for two", x.buy(2, 2), 1);
        Due.is("buy(3, 2), the last one", x.buy(3, 2), 3);
        x.person();
        Due.is("buy(4, 2), none left", x.buy(4, 2), Look.NOT_POSSIBLE);
        Due.is("buy(4, 0), all five vouchers", x.buy(4, 0), 1);
    }

    private static void close() {
        Due.sentence("Returns how many people stayed away; NOT_POSSIBLE if nothing was cooked yet");
        CanteenPlates x = new CanteenPlates();
        Due.is("close() on a new object", x.close(), Look.NOT_POSSIBLE);
        x.cook();
        Due.is("close() of nobody", x.close(), 0);
        Due.is("close() again", x.close(), Look.NOT_POSSIBLE);
        Look.people(x, 14);
        for (int person = 0; person < 14; person++) {
            x.order(person, 0, person % 3);
        }
        Due.is("close() with orders, nothing cooked", x.close(), Look.NOT_POSSIBLE);
        x.cook();
        Due.is("close() of all fourteen", x.close(), 14);
        Due.is("count(9)", x.count(9), 14);
    }

    /** This takes more calls than the document promises answers for; the bound is kept all the same. */
    private static void lastDay() {
        Due.sentence("or the day would be above 9999.");
        CanteenPlates x = Look.after("p");
        Look.days(x, 9998);
        Due.is("order(0, 1, 0) for the day 9999", x.order(0, 1, 0), 4);
        Due.is("order(0, 4, 0) for the day 10002", x.order(0, 4, 0), 3);
        x.cook();
        Due.is("close() to the day 9999", x.close(), 0);
        x.cook();
        Due.is("count(0)", x.count(0), 9999);
        Due.is("close() to the day 10000", x.close(), Look.NOT_POSSIBLE);
        Due.is("count(0)", x.count(0), 9999);
        Due.is("count(9), nobody stayed away", x.count(9), 0);
    }
}
