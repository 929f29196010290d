/** The boundaries that the document's "A day" names: a method for each sentence. */
public final class BoundaryDayTest {
    public static void main(String[] args) {
        cooksOnce();
        noDoubtWithoutTimes();
        doubtByTimes();
        doubtsOfToday();
        roundedUp();
        moreThanKept();
        onceADay();
        priceAndOneMore();
        moreThanAwaited();
        keptOnesFirst();
        noPlateLeft();
        whoStayedAway();
        strikesTakenAway();
        strikesReached();
        bannedDays();
        ordersStay();
        thrownAndKept();
        nextDay();
        Due.end();
    }

    /** Nothing spare, nothing kept, nine strikes: doubts alone decide what is cooked. */
    private static CanteenPlates bare(int people) {
        CanteenPlates x = Look.with(0, 0, 9, 1);
        for (int person = 0; person < people; person++) {
            x.person();
            x.vouchers(person, 30);
        }
        return x;
    }

    private static void cooksOnce() {
        Due.sentence("The kitchen cooks once a day; ahead of that people can order for today, behind that they cannot.");
        CanteenPlates x = Look.after("p;p");
        Due.is("order(0, 0, 0) ahead of it", x.order(0, 0, 0), 4);
        Due.is("cook()", x.cook(), 4);
        Due.is("cook() again", x.cook(), Look.NOT_POSSIBLE);
        Due.is("order(1, 0, 0) behind it", x.order(1, 0, 0), Look.NOT_POSSIBLE);
        Due.is("order(1, 1, 0) behind it", x.order(1, 1, 0), 4);
        x.close();
        Due.is("order(0, 0, 0) on the next day", x.order(0, 0, 0), 3);
        Due.is("cook() on the next day", x.cook() >= 0 ? 1 : 0, 1);
        Due.is("cook() again on the next day", x.cook(), Look.NOT_POSSIBLE);
    }

    private static void noDoubtWithoutTimes() {
        Due.sentence("let a person's doubt be 0 if that person neither came with an order nor stayed away so far");
        CanteenPlates x = bare(2);
        x.order(0, 0, 1);
        Due.is("ofDish(1, 7), a new person's order", x.ofDish(1, 7), 1);
        Due.is("unsurest(1)", x.unsurest(1), Look.NONE);
        // Person 1 buys without an order: that is neither.
        CanteenPlates y = Look.with(1, 0, 9, 1);
        Look.carryOut(y, "p;k;c0a;x;o0b");
        y.set(CanteenPlates.SPARE, 0);
        Due.is("of(0, 8)", y.of(0, 8), 1);
        Due.is("ofDish(1, 7) behind buying", y.ofDish(1, 7), 1);
        Due.is("unsurest(1) behind buying", y.unsurest(1), Look.NONE);
    }

    private static void doubtByTimes() {
        Due.sentence("otherwise 100 * (how often stayed away) / (how often both)");
        for (int away = 0; away < 5; away++) {
            for (int come = 0; come < 5; come++) {
                CanteenPlates x = bare(1);
                Look.days(x, come, 0, true);
                Look.days(x, away, 0, false);
                int due = away == 0 ? Look.NONE : 100 * away / (away + come);
                Due.is("unsurest(1), away " + away + ", come " + come, x.unsurest(1), due);
            }
        }
    }

    private static void doubtsOfToday() {
        Due.sentence("the doubts of all who ordered it for today are added");
        CanteenPlates x = bare(4);
        Look.days(x, 1, 0, false);
        Look.days(x, 1, 1, false);
        x.order(0, 1, 0);
        x.order(1, 0, 1);
        x.order(2, 0, 0);
        x.order(3, 0, 1);
        // Person 0 is in doubt, but for tomorrow; person 1 is, for the other dish.
        Due.is("ofDish(0, 7)", x.ofDish(0, 7), 1);
        Due.is("ofDish(1, 7)", x.ofDish(1, 7), 1);
        Due.is("ofDish(2, 7)", x.ofDish(2, 7), 0);
    }

    /** People of some times away and come, who all order dish 0: the sum of doubts, and the plates. */
    private static void expected(int due, int[]... times) {
        CanteenPlates x = bare(times.length);
        StringBuilder called = new StringBuilder("ofDish(0, 7) for doubts of");
        for (int person = 0; person < times.length; person++) {
            Look.days(x, times[person][0], person, false);
            Look.days(x, times[person][1], person, true);
            called.append(' ').append(100 * times[person][0] / (times[person][0] + times[person][1]));
        }
        for (int person = 0; person < times.length; person++) {
            x.order(person, 0, 0);
        }
        Due.is(called.toString(), x.ofDish(0, 7), due);
        Due.is(called.append(", cook()").toString(), x.cook(), due);
    }

    private static void roundedUp() {
        Due.sentence("expected is the orders for it, times 100, less that sum, divided by 100 and rounded up");
        int[] none = {0, 1}, sixth = {1, 5}, third = {1, 2}, half = {1, 1}, most = {6, 1}, all = {1, 0};
        expected(1, none);
        expected(1, sixth);
        expected(1, most);
        expected(0, all);
        expected(2, none, third);
        expected(2, third, new int[] {2, 1});
        expected(1, half, half);
        expected(1, sixth, most);
        expected(1, none, all);
        expected(1, most, all);
        expected(0, all, all);
        expected(3, third, third, third);
        expected(2, half, half, third);
        expected(2, half, half, none);
        expected(1, all, half, half);
        expected(1, all, all, most);
        CanteenPlates x = bare(0);
        Due.is("cook() without an order", x.cook(), 0);
    }

    private static void moreThanKept() {
        Due.sentence("cooked are as many plates as expected and SPARE together are more than the plates kept of it (0 at least)");
        for (int spare = 0; spare <= 9; spare++) {
            CanteenPlates x = Look.with(4, 20, 3, 5);
            Look.carryOut(x, "p;k;x;o0b");
            x.set(CanteenPlates.SPARE, spare);
            Due.is("ofDish(0, 0)", x.ofDish(0, 0), 4);
            Due.is("ofDish(0, 7), none expected, SPARE " + spare, x.ofDish(0, 7), Math.max(0, spare - 4));
            Due.is("ofDish(1, 7), one expected, SPARE " + spare, x.ofDish(1, 7), Math.max(0, spare - 3));
            Due.is("cook() with SPARE " + spare, x.cook(), 2 * Math.max(0, spare - 4) + Math.max(0, spare - 3));
            Due.is("ofDish(0, 1) with SPARE " + spare, x.ofDish(0, 1), Math.max(0, spare - 4));
            Due.is("ofDish(0, 0), kept ones stay", x.ofDish(0, 0), 4);
        }
    }

    private static void onceADay() {
        Due.sentence("When cooking is done, people come, each once a day at most");
        // Vouchers and plates are there for more.
        CanteenPlates x = Look.with(9, 20, 9, 1);
        Look.carryOut(x, "p;p;p;v0+20;v1+20;k;x;o0a");
        Due.is("come(0) ahead of the cooking", x.come(0), Look.NOT_POSSIBLE);
        Due.is("buy(1, 0) ahead of the cooking, plates are kept", x.buy(1, 0), Look.NOT_POSSIBLE);
        Due.is("ofDish(0, 0)", x.ofDish(0, 0), 9);
        x.cook();
        Due.is("come(0)", x.come(0), 0);
        Due.is("come(0) again", x.come(0), Look.NOT_POSSIBLE);
        Due.is("buy(0, 1) behind it", x.buy(0, 1), Look.NOT_POSSIBLE);
        Due.is("buy(1, 1)", x.buy(1, 1), 23);
        Due.is("buy(1, 1) again", x.buy(1, 1), Look.NOT_POSSIBLE);
        Due.is("buy(1, 2) again", x.buy(1, 2), Look.NOT_POSSIBLE);
        Due.is("come(1) behind it", x.come(1), Look.NOT_POSSIBLE);
        Due.is("of(1, 0)", x.of(1, 0), 23);
        x.close();
        x.cook();
        Due.is("buy(0, 1) on the next day", x.buy(0, 1), 22);
        Due.is("buy(1, 1) on the next day", x.buy(1, 1), 21);
    }

    private static void priceAndOneMore() {
        Due.sentence("one without can get a plate of some dish for its price and a voucher more");
        for (int price = 1; price <= 3; price++) {
            for (int vouchers = 0; vouchers <= 6; vouchers++) {
                CanteenPlates x = new CanteenPlates();
                x.price(0, 2, price);
                x.price(4, 0, 2);
                Look.carryOut(x, "p;o0a+1;o0a+2;o0a+3;o0a+4");
                if (vouchers > 0) {
                    x.vouchers(0, vouchers);
                }
                x.cook();
                Due.is("of(0, 0)", x.of(0, 0), vouchers);
                boolean enough = vouchers >= price + 1;
                Due.is("buy(0, 2) at " + price + " with " + vouchers, x.buy(0, 2),
                    enough ? vouchers - price - 1 : Look.NOT_POSSIBLE);
            }
        }
    }

    private static void moreThanAwaited() {
        Due.sentence("if more plates of it are left than orders for it whose people have not come yet.");
        // Three plates of dish 0 for two orders; of the others one for none.
        CanteenPlates x = Look.after("p;p;p;p;p;o0a;o1a;k");
        Due.is("buy(2, 0), three left, two awaited", x.buy(2, 0), 3);
        Due.is("buy(3, 0), two left, two awaited", x.buy(3, 0), Look.NOT_POSSIBLE);
        x.come(0);
        Due.is("buy(3, 0), one left, one awaited", x.buy(3, 0), Look.NOT_POSSIBLE);
        Due.is("buy(3, 1), one left, none awaited", x.buy(3, 1), 3);
        Due.is("buy(4, 1), none left, none awaited", x.buy(4, 1), Look.NOT_POSSIBLE);
        Due.is("come(1)", x.come(1), 0);
        Due.is("buy(4, 0), none left, none awaited", x.buy(4, 0), Look.NOT_POSSIBLE);
        Due.is("buy(4, 2)", x.buy(4, 2), 3);
        keptOnesCount();
        fewerThanAwaited();
    }

    /** One plate kept and one new, for one order: the kept one counts, too. */
    private static void keptOnesCount() {
        CanteenPlates x = Look.after("p;p;p;k;x;o0a;k");
        Due.is("ofDish(0, 0)", x.ofDish(0, 0), 1);
        Due.is("ofDish(0, 1)", x.ofDish(0, 1), 1);
        Due.is("buy(1, 0), two left, one awaited", x.buy(1, 0), 3);
        Due.is("buy(2, 0), one left, one awaited", x.buy(2, 0), Look.NOT_POSSIBLE);
    }

    /** Both stayed away from one of two, so that one plate is cooked for both orders. */
    private static void fewerThanAwaited() {
        CanteenPlates x = bare(3);
        Look.days(x, 1, 0, false);
        Look.days(x, 1, 0, true);
        Look.days(x, 1, 1, false);
        Look.days(x, 1, 1, true);
        Look.carryOut(x, "o0a;o1a;k");
        Due.is("ofDish(0, 1)", x.ofDish(0, 1), 1);
        Due.is("buy(2, 0), one left, two awaited", x.buy(2, 0), Look.NOT_POSSIBLE);
        Due.is("come(0)", x.come(0), 0);
        Due.is("buy(2, 0), none left, one awaited", x.buy(2, 0), Look.NOT_POSSIBLE);
    }

    private static void keptOnesFirst() {
        Due.sentence("Plates that were kept are given ahead of new ones.");
        CanteenPlates x = Look.with(2, 4, 9, 1);
        Look.carryOut(x, "p;p;p;p;k;x;o0a;o1a;k");
        int[][] left = {{2, 2}, {1, 2}, {0, 2}, {0, 1}};
        for (int person = 0; person < 4; person++) {
            Due.is("ofDish(0, 0) behind " + person + " people", x.ofDish(0, 0), left[person][0]);
            Due.is("ofDish(0, 1) behind " + person + " people", x.ofDish(0, 1), left[person][1]);
            int answer = person % 2 == 0 ? x.come(person / 2) : x.buy(2 + person / 2, 0);
            Due.is("person " + person + " gets one", Math.min(0, answer), 0);
        }
        Due.is("ofDish(0, 0) at last", x.ofDish(0, 0), 0);
        Due.is("ofDish(0, 1) at last", x.ofDish(0, 1), 0);
        Due.is("ofDish(0, 4)", x.ofDish(0, 4), 4);
    }

    private static void noPlateLeft() {
        Due.sentence("(One with an order whose dish has no plate left gets nothing, and gets what was paid back; that counts as "
            + "having come.)");
        CanteenPlates x = bare(1);
        Look.days(x, 1, 0, false);
        x.price(1, 2, 3);
        Due.is("order(0, 0, 2)", x.order(0, 0, 2), 26);
        x.price(1, 2, 1);
        Due.is("cook()", x.cook(), 0);
        Due.is("come(0)", x.come(0), 3);
        Due.is("of(0, 0), what was paid", x.of(0, 0), 29);
        Due.is("of(0, 5)", x.of(0, 5), 1);
        Due.is("of(0, 7)", x.of(0, 7), 1);
        Due.is("of(0, 8)", x.of(0, 8), 0);
        Due.is("of(0, 3)", x.of(0, 3), 0);
        Due.is("ofDish(2, 2)", x.ofDish(2, 2), 0);
        Due.is("ofDish(2, 4)", x.ofDish(2, 4), 0);
        Due.is("come(0) again, nothing is given back again", x.come(0), Look.NOT_POSSIBLE);
        Due.is("close()", x.close(), 0);
        Due.is("of(0, 6)", x.of(0, 6), 1);
        Due.is("unsurest(1)", x.unsurest(1), 50);
        // The last plate, kept or new, is still one.
        Due.is("come(0), one new plate", Look.after("p;o0a;k;c0").of(0, 8), 1);
        CanteenPlates y = Look.with(1, 1, 9, 1);
        Look.carryOut(y, "p;o0a;k;x;o0a;k");
        Due.is("ofDish(0, 0)", y.ofDish(0, 0), 1);
        Due.is("ofDish(0, 1)", y.ofDish(0, 1), 0);
        Due.is("come(0), one kept plate", y.come(0), 0);
    }

    private static void whoStayedAway() {
        Due.sentence("each person with an order for today who has not come has stayed away: that is a strike");
        CanteenPlates x = Look.after("p;p;p;p;p;o0a;o1a;o2a+1;k;c0;c3a");
        Due.is("close()", x.close(), 1);
        int[] away = {0, 1, 0, 0, 0};
        for (int person = 0; person < 5; person++) {
            Due.is("of(" + person + ", 3)", x.of(person, 3), away[person]);
            Due.is("of(" + person + ", 6)", x.of(person, 6), away[person]);
        }
        x.cook();
        Due.is("close(), the order for that day", x.close(), 1);
        Due.is("of(2, 3)", x.of(2, 3), 1);
        Due.is("of(1, 3)", x.of(1, 3), 1);
        x.cook();
        Due.is("close(), nobody has an order", x.close(), 0);
    }

    private static void strikesTakenAway() {
        Due.sentence("to come with an order takes all strikes away at once.");
        CanteenPlates x = Look.after("p;o0a;k;x;o0a;k;x;v0+9;k;c0a;x;o0a");
        Due.is("of(0, 3), buying took none", x.of(0, 3), 2);
        x.cook();
        Due.is("of(0, 3)", x.of(0, 3), 2);
        x.come(0);
        Due.is("of(0, 3) ahead of close()", x.of(0, 3), 0);
        x.close();
        Due.is("of(0, 4)", x.of(0, 4), 0);
        Look.carryOut(x, "o0a;k;x;o0a;k;x");
        Due.is("of(0, 3), counted afresh", x.of(0, 3), 2);
        Due.is("of(0, 4)", x.of(0, 4), 0);
    }

    private static void strikesReached() {
        Due.sentence("Who has STRIKES strikes then, or more (also without an order for today), may not order for the next BAN days");
        // Two strikes; with STRIKES 3, 2 and 1 a day is closed on which there is no order.
        for (int strikes = 1; strikes <= 3; strikes++) {
            CanteenPlates x = Look.after("p;o0a;k;x;o0a;k;x");
            x.set(CanteenPlates.STRIKES, strikes);
            Due.is("of(0, 4), set() does not judge", x.of(0, 4), 0);
            Due.is("of(0, 3), set() does not judge", x.of(0, 3), 2);
            x.cook();
            Due.is("of(0, 4), cook() does not judge", x.of(0, 4), 0);
            x.close();
            Due.is("of(0, 4), two strikes, STRIKES " + strikes, x.of(0, 4), strikes == 3 ? 0 : 8);
            Due.is("of(0, 3), two strikes, STRIKES " + strikes, x.of(0, 3), strikes == 3 ? 2 : 0);
            Due.is("count(8), two strikes, STRIKES " + strikes, x.count(8), strikes == 3 ? 0 : 1);
        }
        CanteenPlates y = Look.after("p;o0a;k;x;o0a;k;x;o0a;k;x");
        Due.is("of(0, 4), exactly three", y.of(0, 4), 8);
        Due.is("of(0, 3), has no strikes any more", y.of(0, 3), 0);
        Due.is("of(0, 6), the times stay", y.of(0, 6), 3);
    }

    private static void bannedDays() {
        Due.sentence("the one that is closed not counted (the orders that there are stay), and has no strikes any more.");
        for (int ban = 1; ban <= 20; ban++) {
            CanteenPlates x = Look.with(1, 4, 1, ban);
            Look.carryOut(x, "p;v0+20;o0a;k;x");
            Due.is("of(0, 4), BAN " + ban, x.of(0, 4), 1 + ban);
            for (int day = 1; day <= ban + 1; day++) {
                for (int ahead = 0; ahead < 5; ahead++) {
                    Due.is("why(0, " + ahead + ", 0) on day " + day + ", BAN " + ban, x.why(0, ahead, 0),
                        day + ahead <= ban ? 2 : 0);
                }
                Due.is("count(8) on day " + day + ", BAN " + ban, x.count(8), day <= ban ? 1 : 0);
                Look.days(x, 1);
            }
        }
    }

    private static void ordersStay() {
        Due.sentence("(the orders that there are stay)");
        CanteenPlates x = Look.with(1, 4, 1, 20);
        Look.carryOut(x, "p;o0a;o0b+1;o0c+4;k;x");
        Due.is("of(0, 2)", x.of(0, 2), 9);
        Due.is("of(0, 1)", x.of(0, 1), 1);
        Due.is("ordered(3, 2)", x.ordered(3, 2), 1);
        Due.is("why(0, 3, 2), the ban goes ahead", x.why(0, 3, 2), 2);
        Due.is("callOff(0, 3) is free", x.callOff(0, 3), 3);
        Due.is("order(0, 3, 2) again is not", x.order(0, 3, 2), Look.NOT_POSSIBLE);
        x.cook();
        Due.is("come(0)", x.come(0), 1);
        x.close();
        Due.is("of(0, 4), coming lifts no ban", x.of(0, 4), 21);
        x.cook();
        Due.is("buy(0, 0), one may not order, but buy", x.buy(0, 0), 1);
    }

    private static void thrownAndKept() {
        Due.sentence("Of each dish the plates that were kept and are left are thrown; of the new ones that are left up to KEEP are "
            + "kept, the rest is thrown.");
        for (int spare = 0; spare <= 9; spare++) {
            for (int keep = 0; keep <= 10; keep++) {
                CanteenPlates x = Look.with(spare, keep, 9, 1);
                Look.days(x, 1);
                int kept = Math.min(spare, keep);
                Due.is("ofDish(0, 0), " + spare + " left, KEEP " + keep, x.ofDish(0, 0), kept);
                Due.is("ofDish(0, 5), " + spare + " left, KEEP " + keep, x.ofDish(0, 5), spare - kept);
                Due.is("count(6), " + spare + " left, KEEP " + keep, x.count(6), 3 * kept);
                x.cook();
                Due.is("ofDish(1, 1) on the next day", x.ofDish(1, 1), spare - kept);
                x.close();
                int again = Math.min(spare - kept, keep);
                Due.is("ofDish(2, 0), also with KEEP " + keep + " nothing is kept twice", x.ofDish(2, 0), again);
                Due.is("ofDish(2, 5), " + spare + " left, KEEP " + keep, x.ofDish(2, 5), 2 * spare - kept - again);
            }
        }
        eatenAreNotThrown();
    }

    /** What is eaten of the kept ones and of the new ones is neither kept nor thrown. */
    private static void eatenAreNotThrown() {
        CanteenPlates x = Look.with(2, 1, 9, 1);
        Look.carryOut(x, "p;p;p;k;x;k;c0a;x");
        // Day 1: one kept, one new; the kept one is eaten, the new one is kept.
        Due.is("ofDish(0, 0)", x.ofDish(0, 0), 1);
        Due.is("ofDish(0, 5)", x.ofDish(0, 5), 1);
        Look.carryOut(x, "k;c1a;c2a;x");
        Due.is("ofDish(0, 0), all were eaten", x.ofDish(0, 0), 0);
        Due.is("ofDish(0, 5), all were eaten", x.ofDish(0, 5), 1);
        Due.is("ofDish(0, 4)", x.ofDish(0, 4), 3);
        Due.is("ofDish(0, 3)", x.ofDish(0, 3), 4);
    }

    private static void nextDay() {
        Due.sentence("Then the day is 1 more; nothing is cooked yet.");
        CanteenPlates x = Look.after("p;p;o0a;o0b+1;k;c0;c1c");
        x.close();
        Due.is("count(0)", x.count(0), 1);
        Due.is("count(2)", x.count(2), 0);
        Due.is("of(0, 7)", x.of(0, 7), 0);
        Due.is("of(1, 7)", x.of(1, 7), 0);
        Due.is("of(0, 1)", x.of(0, 1), 1);
        for (int dish = 0; dish < 3; dish++) {
            Due.is("ofDish(" + dish + ", 1)", x.ofDish(dish, 1), 0);
        }
        Due.is("close()", x.close(), Look.NOT_POSSIBLE);
        Due.is("come(0)", x.come(0), Look.NOT_POSSIBLE);
        Due.is("buy(1, 0)", x.buy(1, 0), Look.NOT_POSSIBLE);
        Due.is("order(1, 0, 0)", x.order(1, 0, 0), 2);
    }
}
