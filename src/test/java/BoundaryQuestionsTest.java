/** The boundaries that the document's promises 12 to 19 name: a method for each sentence. */
public final class BoundaryQuestionsTest {
    private static final int LEAST = Integer.MIN_VALUE, MOST = Integer.MAX_VALUE;

    public static void main(String[] args) {
        ofErrors();
        ofOrders();
        ofFirstDayAgain();
        ofTimes();
        ofDishErrors();
        ofDishLeft();
        ofDishWouldBeCooked();
        orderedErrors();
        orderedSets();
        countErrors();
        countOfPeople();
        countOfChanges();
        countOfPlates();
        whyErrors();
        whyFirstReason();
        whyBanned();
        whyTooFew();
        unsurestAbove();
        unsurestOfSeveral();
        unsurestErrors();
        firstOrderDays();
        firstOrderNone();
        wastedOfSome();
        wastedOfSeveral();
        wastedNone();
        nothingChanges();
        Due.end();
    }

    private static void ofErrors() {
        Due.sentence("Returns the number; NO_SUCH if there is no such person; BAD_VALUE if what is out of range.");
        CanteenPlates x = Look.after("p;p");
        for (int what = -1; what <= 9; what++) {
            boolean good = what >= 0 && what <= 8;
            int due = what == 0 ? 5 : what == 1 ? Look.NONE : good ? 0 : Look.BAD_VALUE;
            Due.is("of(1, " + what + ")", x.of(1, what), due);
            for (int bad : new int[] {LEAST, -1, 2, 13, 14, MOST}) {
                Due.is("of(" + bad + ", " + what + ")", x.of(bad, what), Look.NO_SUCH);
            }
        }
        Due.is("of(0, least)", x.of(0, LEAST), Look.BAD_VALUE);
        Due.is("of(0, most)", x.of(0, MOST), Look.BAD_VALUE);
    }

    private static void ofOrders() {
        Due.sentence("1 the dish ordered for today (NONE), 2 days of today and the 4 ahead for which there is an order, as a set "
            + "(today is the bit 0)");
        CanteenPlates x = Look.after("p");
        Due.is("of(0, 1)", x.of(0, 1), Look.NONE);
        Due.is("of(0, 2)", x.of(0, 2), 0);
        x.order(0, 4, 2);
        Due.is("of(0, 1)", x.of(0, 1), Look.NONE);
        Due.is("of(0, 2)", x.of(0, 2), 16);
        x.order(0, 0, 0);
        Due.is("of(0, 1)", x.of(0, 1), 0);
        Due.is("of(0, 2)", x.of(0, 2), 17);
        int[] sets = {8, 4, 2, 1, 0, 0};
        for (int day = 0; day < sets.length; day++) {
            Look.days(x, 1);
            Due.is("of(0, 2) on day " + (day + 1), x.of(0, 2), sets[day]);
            Due.is("of(0, 1) on day " + (day + 1), x.of(0, 1), day == 3 ? 2 : Look.NONE);
        }
    }

    private static void ofFirstDayAgain() {
        Due.sentence("4 the first day for which the person may order again (0 as long as there was no ban)");
        CanteenPlates x = Look.with(1, 4, 2, 3);
        Look.carryOut(x, "p;v0+9;o0a;k;x");
        Due.is("of(0, 4), there was no ban", x.of(0, 4), 0);
        Look.carryOut(x, "o0a;k;x");
        Due.is("of(0, 4)", x.of(0, 4), 5);
        Look.days(x, 4);
        Due.is("of(0, 4), the ban is over", x.of(0, 4), 5);
        Look.carryOut(x, "o0a;k;x;o0a;k;x");
        Due.is("of(0, 4), there was another one", x.of(0, 4), 11);
    }

    private static void ofTimes() {
        Due.sentence("5 times to have come with an order, 6 to have stayed away, so far, 7 whether the person has come today (1 or "
            + "0), 8 plates so far");
        CanteenPlates x = Look.after("p;v0+9");
        int[][] due = {{1, 0, 1, 1}, {1, 0, 1, 2}, {1, 1, 0, 2}};
        String[] days = {"o0a;k;c0", "k;c0b", "o0a;k;x"};
        for (int day = 0; day < 3; day++) {
            Look.carryOut(x, days[day]);
            for (int what = 5; what <= 8; what++) {
                Due.is("of(0, " + what + ") on day " + day, x.of(0, what), due[day][what - 5]);
            }
            x.close();
            Due.is("of(0, 7) behind close()", x.of(0, 7), 0);
        }
    }

    private static void ofDishErrors() {
        Due.sentence("Returns the number; NO_SUCH if there is no such dish; BAD_VALUE if what is out of range.");
        CanteenPlates x = new CanteenPlates();
        for (int what = -1; what <= 8; what++) {
            boolean good = what >= 0 && what <= 7;
            int due = what == 6 || what == 7 ? 1 : good ? 0 : Look.BAD_VALUE;
            Due.is("ofDish(2, " + what + ")", x.ofDish(2, what), due);
            for (int bad : new int[] {LEAST, -1, 3, MOST}) {
                Due.is("ofDish(" + bad + ", " + what + ")", x.ofDish(bad, what), Look.NO_SUCH);
            }
        }
        Due.is("ofDish(0, least)", x.ofDish(0, LEAST), Look.BAD_VALUE);
        Due.is("ofDish(0, most)", x.ofDish(0, MOST), Look.BAD_VALUE);
    }

    private static void ofDishLeft() {
        Due.sentence("0 plates left today that were kept, 1 new ones left, 2 orders for it for today whose people have not come, 3 "
            + "plates cooked, 4 eaten, 5 thrown so far");
        CanteenPlates x = Look.with(1, 1, 9, 1);
        Look.carryOut(x, "p;p;p;k;x;o0a;o1a;k");
        Due.is("ofDish(0, 3)", x.ofDish(0, 3), 3);
        int[][] due = {{1, 2, 2, 0}, {0, 2, 1, 1}, {0, 1, 1, 2}, {0, 0, 0, 3}};
        for (int step = 0; step < 4; step++) {
            Due.is("ofDish(0, 0) in step " + step, x.ofDish(0, 0), due[step][0]);
            Due.is("ofDish(0, 1) in step " + step, x.ofDish(0, 1), due[step][1]);
            Due.is("ofDish(0, 2) in step " + step, x.ofDish(0, 2), due[step][2]);
            Due.is("ofDish(0, 4) in step " + step, x.ofDish(0, 4), due[step][3]);
            Due.is("ofDish(0, 5) in step " + step, x.ofDish(0, 5), 0);
            int answer = step == 0 ? x.come(0) : step == 1 ? x.buy(2, 0) : step == 2 ? x.come(1) : 0;
            Due.is("step " + step, Math.min(0, answer), 0);
        }
        x.close();
        // Of dish 1 one plate was kept and none new: it is thrown.
        Due.is("ofDish(1, 5)", x.ofDish(1, 5), 1);
        Due.is("ofDish(1, 0)", x.ofDish(1, 0), 0);
        Due.is("ofDish(0, 5)", x.ofDish(0, 5), 0);
    }

    private static void ofDishWouldBeCooked() {
        Due.sentence("6 its price today, 7 plates of it that would be cooked now (0 if it is done today)");
        CanteenPlates x = Look.with(2, 4, 9, 1);
        x.price(1, 0, 3);
        Look.carryOut(x, "p;o0a");
        Due.is("ofDish(0, 6)", x.ofDish(0, 6), 1);
        Due.is("ofDish(0, 7)", x.ofDish(0, 7), 3);
        Due.is("ofDish(1, 7)", x.ofDish(1, 7), 2);
        Due.is("cook() as told", x.cook(), 7);
        Due.is("ofDish(0, 7), it is done", x.ofDish(0, 7), 0);
        Look.carryOut(x, "c0");
        x.set(CanteenPlates.SPARE, 9);
        Due.is("ofDish(0, 7), it is done", x.ofDish(0, 7), 0);
        x.close();
        Due.is("ofDish(0, 6) on the next day", x.ofDish(0, 6), 3);
        Due.is("ofDish(0, 7) on the next day, two are kept", x.ofDish(0, 7), 7);
        x.set(CanteenPlates.SPARE, 2);
        Due.is("ofDish(0, 7), as many as are kept", x.ofDish(0, 7), 0);
        x.set(CanteenPlates.SPARE, 1);
        Due.is("ofDish(0, 7), fewer than are kept", x.ofDish(0, 7), 0);
    }

    private static void orderedErrors() {
        Due.sentence("Returns those who ordered the dish, as a set; NO_SUCH if there is no such dish; BAD_VALUE if ahead is out of "
            + "range.");
        CanteenPlates x = Look.after("p;o0c;o0c+4");
        for (int ahead = -1; ahead <= 5; ahead++) {
            int due = ahead == 0 || ahead == 4 ? 1 : ahead > 0 && ahead < 4 ? 0 : Look.BAD_VALUE;
            Due.is("ordered(" + ahead + ", 2)", x.ordered(ahead, 2), due);
            for (int bad : new int[] {LEAST, -1, 3, MOST}) {
                Due.is("ordered(" + ahead + ", " + bad + ")", x.ordered(ahead, bad), Look.NO_SUCH);
            }
        }
        Due.is("ordered(least, 0)", x.ordered(LEAST, 0), Look.BAD_VALUE);
        Due.is("ordered(most, 0)", x.ordered(MOST, 0), Look.BAD_VALUE);
    }

    private static void orderedSets() {
        Due.sentence("Returns those who ordered the dish, as a set");
        CanteenPlates x = new CanteenPlates();
        Due.is("ordered(0, 0) of nobody", x.ordered(0, 0), 0);
        Look.people(x, 14);
        for (int person = 0; person < 14; person++) {
            x.order(person, 2, 1);
        }
        Due.is("ordered(2, 1) of all", x.ordered(2, 1), 0x3FFF);
        Due.is("ordered(1, 1)", x.ordered(1, 1), 0);
        Due.is("ordered(2, 0)", x.ordered(2, 0), 0);
        x.callOff(13, 2);
        Due.is("ordered(2, 1) without the last", x.ordered(2, 1), 0x1FFF);
        x.callOff(0, 2);
        Due.is("ordered(2, 1) without the first", x.ordered(2, 1), 0x1FFE);
    }

    private static void countErrors() {
        Due.sentence("Returns the number; BAD_VALUE if what is out of range.");
        CanteenPlates x = new CanteenPlates();
        int[] due = {0, 0, 0, 0, 0, 0, 0, 0, 0, 0, 1, 4, 3, 5, 0, 0};
        for (int what = -3; what <= 19; what++) {
            boolean good = what >= 0 && what <= 15;
            Due.is("count(" + what + ")", x.count(what), good ? due[what] : Look.BAD_VALUE);
        }
        Due.is("count(least)", x.count(LEAST), Look.BAD_VALUE);
        Due.is("count(most)", x.count(MOST), Look.BAD_VALUE);
    }

    private static void countOfPeople() {
        Due.sentence("7 vouchers of all people, 8 people who may not order for today, as a set, 9 times to have stayed away so far");
        CanteenPlates x = Look.with(1, 4, 1, 1);
        Look.people(x, 14);
        for (int person = 0; person < 14; person++) {
            x.vouchers(person, 30);
        }
        Due.is("count(7), the most there can be", x.count(7), 420);
        Look.carryOut(x, "o0a;o13a;k;x");
        Due.is("count(7)", x.count(7), 418);
        Due.is("count(8)", x.count(8), 0x2001);
        Due.is("count(9)", x.count(9), 2);
        x.cook();
        Due.is("count(8), cooked or not", x.count(8), 0x2001);
        x.close();
        Due.is("count(8), the ban is over", x.count(8), 0);
        Look.carryOut(x, "o0a;k;x");
        Due.is("count(8)", x.count(8), 1);
        Due.is("count(9)", x.count(9), 3);
    }

    private static void countOfChanges() {
        Due.sentence("10 to 13 the settings, 14 the length of the pad, 15 how many changes can be undone");
        CanteenPlates x = Look.with(9, 20, 8, 19);
        int[] due = {9, 20, 8, 19};
        for (int setting = 0; setting < 4; setting++) {
            Due.is("count(" + (10 + setting) + ")", x.count(10 + setting), due[setting]);
        }
        Due.is("count(15)", x.count(15), 4);
        for (int changes = 5; changes <= 9; changes++) {
            x.person();
            Due.is("count(15) behind " + changes + " changes", x.count(15), Math.min(6, changes));
        }
        for (int times = 0; times <= 10; times++) {
            Due.is("count(14)", x.count(14), 8 * times);
            x.put(Look.packed("k;x;k;x;"));
        }
        Due.is("count(14), it is full", x.count(14), 80);
    }

    private static void countOfPlates() {
        Due.sentence("3 plates cooked, 4 eaten, 5 thrown so far, 6 plates that are there now");
        CanteenPlates x = Look.with(2, 1, 9, 1);
        Look.carryOut(x, "p;p;o0a;k");
        int[][] due = {{7, 0, 0, 7}, {7, 1, 0, 6}, {7, 2, 0, 5}, {7, 2, 2, 3}, {10, 2, 2, 6}, {10, 2, 5, 3}};
        String[] steps = {"", "c0", "c1b", "x", "k", "x"};
        for (int step = 0; step < steps.length; step++) {
            Look.carryOut(x, steps[step]);
            for (int what = 3; what <= 6; what++) {
                Due.is("count(" + what + ") in step " + step, x.count(what), due[step][what - 3]);
            }
        }
    }

    private static void whyErrors() {
        Due.sentence("0: it can be; NO_SUCH if there is no such person or dish; BAD_VALUE if ahead is out of range.");
        CanteenPlates x = Look.after("p");
        for (int ahead = -1; ahead <= 5; ahead++) {
            boolean good = ahead >= 0 && ahead <= 4;
            Due.is("why(0, " + ahead + ", 2)", x.why(0, ahead, 2), good ? 0 : Look.BAD_VALUE);
            for (int bad : new int[] {LEAST, -1, 1, 13, 14, MOST}) {
                Due.is("why(" + bad + ", " + ahead + ", 0)", x.why(bad, ahead, 0), Look.NO_SUCH);
            }
            for (int bad : new int[] {LEAST, -1, 3, MOST}) {
                Due.is("why(0, " + ahead + ", " + bad + ")", x.why(0, ahead, bad), Look.NO_SUCH);
            }
        }
        Due.is("why(0, least, 0)", x.why(0, LEAST, 0), Look.BAD_VALUE);
        Due.is("why(0, most, 0)", x.why(0, MOST, 0), Look.BAD_VALUE);
    }

    /** All four reasons at once, and then one after the other without the first ones. */
    private static void whyFirstReason() {
        Due.sentence("Returns the first of these that is so: 1 it is for today, and it is cooked; 2 the person may not order for "
            + "that day; 3 there is an order for that day; 4 the vouchers are too few");
        CanteenPlates x = Look.with(1, 4, 1, 1);
        for (int weekday = 0; weekday < 5; weekday++) {
            x.price(weekday, 1, 2);
        }
        Look.carryOut(x, "p;o0a;o0a+1;o0a+2;o0a+3;k;x");
        Due.is("of(0, 0)", x.of(0, 0), 1);
        Due.is("why(0, 0, 1), 2, 3 and 4", x.why(0, 0, 1), 2);
        x.cook();
        Due.is("why(0, 0, 1), all of them", x.why(0, 0, 1), 1);
        Due.is("why(0, 1, 1), 3 and 4", x.why(0, 1, 1), 3);
        Due.is("why(0, 3, 1), 4", x.why(0, 3, 1), 4);
        Due.is("why(0, 3, 0), none", x.why(0, 3, 0), 0);
        x.vouchers(0, 1);
        Due.is("why(0, 3, 1), none", x.why(0, 3, 1), 0);
        Due.is("why(0, 1, 1), 3", x.why(0, 1, 1), 3);
        CanteenPlates y = Look.with(1, 4, 1, 1);
        Look.carryOut(y, "p;v0+9;o0a;k;x");
        Due.is("why(0, 0, 0), 2", y.why(0, 0, 0), 2);
        y.cook();
        Due.is("why(0, 0, 0), 1 and 2", y.why(0, 0, 0), 1);
        y.close();
        y.order(0, 0, 0);
        Due.is("why(0, 0, 0), 3", y.why(0, 0, 0), 3);
        y.cook();
        Due.is("why(0, 0, 0), 1 and 3", y.why(0, 0, 0), 1);
        CanteenPlates z = Look.after("p;k");
        Due.is("why(0, 0, 0), 1", z.why(0, 0, 0), 1);
        Due.is("why(0, 1, 0), cooked today is no matter for tomorrow", z.why(0, 1, 0), 0);
    }

    private static void whyBanned() {
        Due.sentence("2 the person may not order for that day");
        CanteenPlates x = Look.with(1, 4, 1, 2);
        Look.carryOut(x, "p;o0a;k;x");
        int[] due = {2, 2, 0, 0, 0};
        for (int ahead = 0; ahead < 5; ahead++) {
            Due.is("why(0, " + ahead + ", 0), the days 1 and 2 are banned", x.why(0, ahead, 0), due[ahead]);
        }
        Look.days(x, 1);
        Due.is("why(0, 0, 0) on the last banned day", x.why(0, 0, 0), 2);
        Due.is("why(0, 1, 0) on the last banned day", x.why(0, 1, 0), 0);
        Look.days(x, 1);
        Due.is("why(0, 0, 0) on the first free day", x.why(0, 0, 0), 0);
    }

    private static void whyTooFew() {
        Due.sentence("4 the vouchers are too few");
        for (int price = 1; price <= 3; price++) {
            CanteenPlates x = Look.after("p;o0a+1;o0a+2;o0a+3");
            x.price(4, 2, price);
            x.price(0, 2, 4 - price);
            Due.is("why(0, 4, 2), two vouchers for " + price, x.why(0, 4, 2), price > 2 ? 4 : 0);
            Due.is("why(0, 0, 2), two vouchers for " + (4 - price), x.why(0, 0, 2), price < 2 ? 4 : 0);
        }
    }

    private static void unsurestAbove() {
        Due.sentence("Finds the person with the greatest doubt above 0");
        CanteenPlates x = Look.after("p;p;o0a;o1a;k;c0;c1;x");
        Due.is("unsurest(0), doubts of 0", x.unsurest(0), Look.NONE);
        Look.carryOut(x, "o1a;k;x");
        Due.is("unsurest(0)", x.unsurest(0), 1);
        Due.is("unsurest(1)", x.unsurest(1), 50);
        Look.carryOut(x, "o0a;k;x;o0a;k;x");
        Due.is("unsurest(0)", x.unsurest(0), 0);
        Due.is("unsurest(1)", x.unsurest(1), 66);
        // One of 101 is a doubt of 0, one of 100 is one of 1.
        CanteenPlates y = Look.after("p;o0a;k;x");
        for (int times = 1; times <= 100; times++) {
            if (times % 20 == 1) {
                y.vouchers(0, 30);
            }
            Look.carryOut(y, "o0a;k;c0;x");
            int due = 100 / (times + 1);
            Due.is("unsurest(1), come " + times + " times", y.unsurest(1), due > 0 ? due : Look.NONE);
        }
        Due.is("unsurest(0)", y.unsurest(0), Look.NONE);
    }

    private static void unsurestOfSeveral() {
        Due.sentence("of several the one who came with an order and stayed away more often (both together), then the lowest one.");
        // Away and come of three people, all with a doubt of 50 or of 33.
        int[][][] cases = {{{1, 1}, {1, 1}, {1, 1}}, {{1, 1}, {2, 2}, {1, 1}}, {{1, 1}, {2, 2}, {2, 2}},
            {{2, 2}, {1, 1}, {2, 2}}, {{1, 1}, {1, 1}, {2, 2}}, {{1, 2}, {2, 4}, {1, 2}}, {{1, 2}, {2, 4}, {1, 1}}};
        int[] due = {0, 1, 1, 0, 2, 1, 2};
        for (int some = 0; some < cases.length; some++) {
            CanteenPlates x = Look.with(0, 0, 9, 1);
            for (int person = 0; person < 3; person++) {
                x.person();
                x.vouchers(person, 30);
                Look.days(x, cases[some][person][0], person, false);
                Look.days(x, cases[some][person][1], person, true);
            }
            Due.is("unsurest(0) in case " + some, x.unsurest(0), due[some]);
            int[] found = cases[some][due[some]];
            Due.is("unsurest(1) in case " + some, x.unsurest(1), 100 * found[0] / (found[0] + found[1]));
        }
    }

    private static void unsurestErrors() {
        Due.sentence("Returns the number; BAD_VALUE if what is neither; NONE if nobody has a doubt above 0.");
        CanteenPlates none = new CanteenPlates();
        CanteenPlates some = Look.after("p;o0a;k;x");
        for (int what = -2; what <= 3; what++) {
            boolean good = what == 0 || what == 1;
            Due.is("unsurest(" + what + ") of nobody", none.unsurest(what), good ? Look.NONE : Look.BAD_VALUE);
            Due.is("unsurest(" + what + ")", some.unsurest(what), !good ? Look.BAD_VALUE : what == 0 ? 0 : 100);
        }
        Due.is("unsurest(least)", some.unsurest(LEAST), Look.BAD_VALUE);
        Due.is("unsurest(most)", some.unsurest(MOST), Look.BAD_VALUE);
    }

    private static void firstOrderDays() {
        Due.sentence("Finds the first day, today or one of the 4 ahead, and the lowest dish, that a person could order.");
        CanteenPlates x = Look.after("p;v0+9");
        for (int ahead = 0; ahead < 5; ahead++) {
            Due.is("firstOrder(0), " + ahead + " days are taken", x.firstOrder(0), 3 * ahead);
            x.order(0, ahead, 2);
        }
        // One voucher is left; dish by dish it is too few.
        CanteenPlates y = Look.after("p;o0a+1;o0a+2;o0a+3;o0a+4");
        for (int dish = 0; dish < 3; dish++) {
            Due.is("firstOrder(0), lowest dish", y.firstOrder(0), dish);
            y.price(0, dish, 2);
        }
        Due.is("firstOrder(0), none for today, and the days ahead are taken", y.firstOrder(0), Look.NONE);
        y.callOff(0, 4);
        Due.is("firstOrder(0), two vouchers", y.firstOrder(0), 0);
        y.cook();
        Due.is("firstOrder(0), it is cooked", y.firstOrder(0), 12);
        y.price(4, 0, 3);
        y.price(4, 1, 3);
        Due.is("firstOrder(0), the last there is", y.firstOrder(0), 14);
    }

    private static void firstOrderNone() {
        Due.sentence("Returns 3 * how many days ahead, and the dish; NO_SUCH if there is no such person; NONE if there is none.");
        CanteenPlates x = Look.after("p;o0a;o0a+1;o0a+2;o0a+3");
        Due.is("firstOrder(0)", x.firstOrder(0), 12);
        x.order(0, 4, 0);
        Due.is("firstOrder(0), all days are taken", x.firstOrder(0), Look.NONE);
        for (int bad : new int[] {LEAST, -1, 1, 13, 14, MOST}) {
            Due.is("firstOrder(" + bad + ")", x.firstOrder(bad), Look.NO_SUCH);
        }
        for (int ban = 1; ban <= 6; ban++) {
            CanteenPlates y = Look.with(1, 4, 1, ban);
            Look.carryOut(y, "p;o0a;k;x");
            Due.is("firstOrder(0), BAN " + ban, y.firstOrder(0), ban < 5 ? 3 * ban : Look.NONE);
        }
    }

    /** Of dish 2 nothing is thrown; of dish 0 and 1 some, by what is bought. */
    private static void wastedOfSome() {
        Due.sentence("Finds the dish with the greatest 100 * (plates thrown) / (plates cooked), both so far, of those of which some "
            + "were thrown");
        CanteenPlates x = Look.with(1, 0, 9, 1);
        Look.carryOut(x, "p;p;p;k;c0a;c1b;c2c;x");
        Due.is("wasted(), all were eaten", x.wasted(), Look.NONE);
        Look.carryOut(x, "k;c0a;c1b;x");
        Due.is("wasted(), 0 of 2, 0 of 2, 1 of 2", x.wasted(), 2);
        Look.carryOut(x, "v0+9;v1+9;k;c0a;x");
        Due.is("wasted(), 0 of 3, 1 of 3, 2 of 3", x.wasted(), 2);
        Look.carryOut(x, "k;c0c;x;k;c0c;x;k;c0c;x");
        Due.is("wasted(), 3 of 6, 4 of 6, 2 of 6", x.wasted(), 1);
        wastedBelowAHundredth();
    }

    /** One plate of 113 is none of a hundred, and thrown all the same. */
    private static void wastedBelowAHundredth() {
        CanteenPlates x = Look.with(0, 0, 9, 1);
        Look.people(x, 14);
        for (int day = 0; day < 8; day++) {
            for (int person = 0; person < 14; person++) {
                x.vouchers(person, 1);
                x.order(person, 0, 2);
            }
            x.cook();
            for (int person = 0; person < 14; person++) {
                x.come(person);
            }
            x.close();
        }
        Due.is("wasted(), 0 of 112", x.wasted(), Look.NONE);
        Look.carryOut(x, "o0c;k;x");
        Due.is("ofDish(2, 3)", x.ofDish(2, 3), 113);
        Due.is("ofDish(2, 5)", x.ofDish(2, 5), 1);
        Due.is("wasted(), 1 of 113", x.wasted(), 2);
    }

    private static void wastedOfSeveral() {
        Due.sentence("of several the lowest one.");
        CanteenPlates x = Look.with(1, 0, 9, 1);
        Look.carryOut(x, "p;k;x");
        Due.is("wasted(), 1 of 1 each", x.wasted(), 0);
        Look.carryOut(x, "k;c0a;x");
        Due.is("wasted(), 1 of 2, 2 of 2, 2 of 2", x.wasted(), 1);
        Look.carryOut(x, "k;c0b;x");
        Due.is("wasted(), 2 of 3, 2 of 3, 3 of 3", x.wasted(), 2);
        Look.carryOut(x, "v0+9;k;c0c;x");
        Due.is("wasted(), 3 of 4 each", x.wasted(), 0);
        wastedRoundedDown();
        wastedInHundredths();
    }

    /** So many days with one plate of each dish; on the first ones some are eaten. */
    private static void wastedRoundedDown() {
        CanteenPlates x = Look.with(1, 0, 9, 1);
        Look.carryOut(x, "p;p;v0+30;v1+30;k;c0a;c1b;x;k;c0a;x");
        // Of dish 0 two plates are eaten, of dish 1 one, of dish 2 none.
        Look.carryOut(x, "k;c0c;c1b;x;k;c0c;c1b;x");
        Due.is("wasted(), 2 of 4, 1 of 4, 2 of 4", x.wasted(), 0);
        x.set(CanteenPlates.SPARE, 9);
        Look.days(x, 19);
        // Of 175 plates 173, 172 and 173 are thrown: 98 of a hundred each.
        Due.is("ofDish(0, 3)", x.ofDish(0, 3), 175);
        Due.is("ofDish(0, 5)", x.ofDish(0, 5), 173);
        Due.is("ofDish(1, 5)", x.ofDish(1, 5), 172);
        x.set(CanteenPlates.SPARE, 1);
        Look.carryOut(x, "k;c0a;x;k;c0a;x");
        // 173, 174 and 175 of 177 are 97, 98 and 98 of a hundred.
        Due.is("wasted(), rounded down", x.wasted(), 1);
    }

    /** Of 171 plates of each dish and one more a day one is eaten each day, of one dish after the other. */
    private static void wastedInHundredths() {
        CanteenPlates x = Look.with(9, 0, 9, 1);
        Look.people(x, 4);
        for (int person = 0; person < 4; person++) {
            x.vouchers(person, 30);
        }
        Look.days(x, 19);
        x.set(CanteenPlates.SPARE, 1);
        int[] eaten = new int[3];
        int[] eatenOn = {0, 1, 0, 2, 2, 1, 1};
        for (int day = 1; day <= 56; day++) {
            int dish = eatenOn[day % 7];
            x.cook();
            Due.is("buy() on day " + day, x.buy(day % 4, dish) < 0 ? 1 : 0, 0);
            x.close();
            eaten[dish]++;
            int cooked = 171 + day;
            int due = 0;
            for (int other = 1; other < 3; other++) {
                due = 100 * (cooked - eaten[other]) / cooked > 100 * (cooked - eaten[due]) / cooked ? other : due;
            }
            Due.is("wasted() of " + cooked + ", eaten " + eaten[0] + ", " + eaten[1] + ", " + eaten[2], x.wasted(), due);
        }
    }

    private static void wastedNone() {
        Due.sentence("Returns the dish; NONE if nothing was thrown.");
        CanteenPlates x = new CanteenPlates();
        Due.is("wasted() of nothing", x.wasted(), Look.NONE);
        x.cook();
        Due.is("wasted(), cooked", x.wasted(), Look.NONE);
        x.close();
        Due.is("wasted(), all is kept", x.wasted(), Look.NONE);
        x.cook();
        Due.is("wasted(), kept and cooked", x.wasted(), Look.NONE);
        x.close();
        Due.is("wasted(), what was kept is thrown", x.wasted(), 0);
        x.undo();
        Due.is("wasted(), undone", x.wasted(), Look.NONE);
    }

    private static void nothingChanges() {
        Due.sentence("---- what if; nothing changes");
        String[] runs = {"p;p;p;o0a;o1b;o2a+1;k;c0;x;o1c;k;x;o1a+3", "p;o0a;k;x;o0a;k;x;o0a;k;x;k"};
        for (String run : runs) {
            CanteenPlates x = Look.after(run);
            Look.write(x, "p;k");
            String first = Look.atAll(x);
            for (int what = -1; what <= 5; what++) {
                x.why(0, what, 0);
                x.unsurest(what);
                x.firstOrder(what);
                x.wasted();
            }
            Due.same("all behind questions", Look.atAll(x), first);
            x.undo();
            Due.is("undo() goes back to nothing", x.count(1), 0);
        }
    }
}
