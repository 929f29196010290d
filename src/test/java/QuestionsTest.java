/** Promises 12 to 19: what there is, and what if. */
public final class QuestionsTest {
    private static final int LEAST = Integer.MIN_VALUE, MOST = Integer.MAX_VALUE;

    public static void main(String[] args) {
        of();
        ofDish();
        wouldBeCooked();
        ordered();
        count();
        why();
        unsurest();
        unsurestTies();
        smallestDoubt();
        allFourteen();
        firstOrder();
        wasted();
        wastedTies();
        questionsChangeNothing();
        Due.end();
    }

    private static void of() {
        CanteenPlates x = Look.after("p;p;o1c;o1a+2;o1b+4;v0+3;k;c1;c0a");
        int[] first = {6, Look.NONE, 0, 0, 0, 0, 0, 1, 1};
        int[] second = {2, 2, 21, 0, 0, 1, 0, 1, 1};
        for (int what = 0; what < 9; what++) {
            Due.is("12: of(0, " + what + ")", x.of(0, what), first[what]);
            Due.is("12: of(1, " + what + ")", x.of(1, what), second[what]);
        }
        for (int bad : new int[] {-1, 9, LEAST, MOST}) {
            Due.is("12: of(0, " + bad + ")", x.of(0, bad), Look.BAD_VALUE);
            Due.is("12: of(2, " + bad + ")", x.of(2, bad), Look.NO_SUCH);
        }
        for (int bad : new int[] {-1, 2, 13, 14, LEAST, MOST}) {
            Due.is("12: of(" + bad + ", 0)", x.of(bad, 0), Look.NO_SUCH);
        }
        CanteenPlates y = Look.after("p;o0b;k;x;o0b;k;x");
        int[] away = {3, Look.NONE, 0, 2, 0, 0, 2, 0, 0};
        for (int what = 0; what < 9; what++) {
            Due.is("12: of(0, " + what + ")", y.of(0, what), away[what]);
        }
        Look.carryOut(y, "o0b;k;x");
        int[] banned = {2, Look.NONE, 0, 0, 8, 0, 3, 0, 0};
        for (int what = 0; what < 9; what++) {
            Due.is("12: of(0, " + what + ")", y.of(0, what), banned[what]);
        }
    }

    private static void ofDish() {
        CanteenPlates x = Look.after("p;p;p;o0a;o1a;o2a+1;k;c0;x;k;c2");
        // Day 0: three plates, one eaten, two kept; day 1: one order makes none new.
        int[] first = {1, 0, 0, 3, 2, 0, 1, 0};
        int[] second = {1, 0, 0, 1, 0, 0, 1, 0};
        for (int what = 0; what < 8; what++) {
            Due.is("13: ofDish(0, " + what + ")", x.ofDish(0, what), first[what]);
            Due.is("13: ofDish(1, " + what + ")", x.ofDish(1, what), second[what]);
        }
        Look.carryOut(x, "x;o2a;o0a");
        int[] next = {0, 0, 2, 3, 2, 1, 1, 3};
        for (int what = 0; what < 8; what++) {
            Due.is("13: ofDish(0, " + what + ")", x.ofDish(0, what), next[what]);
        }
        x.price(2, 0, 3);
        x.price(3, 0, 2);
        Due.is("13: ofDish(0, 6)", x.ofDish(0, 6), 3);
        for (int bad : new int[] {-1, 8, LEAST, MOST}) {
            Due.is("13: ofDish(2, " + bad + ")", x.ofDish(2, bad), Look.BAD_VALUE);
            Due.is("13: ofDish(3, " + bad + ")", x.ofDish(3, bad), Look.NO_SUCH);
        }
        for (int bad : new int[] {-1, 3, LEAST, MOST}) {
            Due.is("13: ofDish(" + bad + ", 0)", x.ofDish(bad, 0), Look.NO_SUCH);
        }
    }

    private static void wouldBeCooked() {
        CanteenPlates x = Look.after("p;p;o0a;o1a;k;x");
        Due.is("13: ofDish(0, 0)", x.ofDish(0, 0), 3);
        Due.is("13: ofDish(0, 7), more are kept than wanted", x.ofDish(0, 7), 0);
        x.set(CanteenPlates.SPARE, 9);
        Due.is("13: ofDish(0, 7)", x.ofDish(0, 7), 6);
        Due.is("13: ofDish(1, 7)", x.ofDish(1, 7), 8);
        Look.carryOut(x, "p;o2a;o0a;o1b");
        Due.is("13: ofDish(0, 7), one of two is expected", x.ofDish(0, 7), 7);
        Due.is("13: ofDish(1, 7), by a doubt of 100", x.ofDish(1, 7), 8);
        Due.is("13: cook() as told", x.cook(), 23);
        for (int dish = 0; dish < 3; dish++) {
            Due.is("13: ofDish(" + dish + ", 7), it is done", x.ofDish(dish, 7), 0);
        }
    }

    private static void ordered() {
        CanteenPlates x = Look.after("p;p;p;o0a;o2a;o1c;o0b+4;o1a+1", "p;p;p;p;p;p;p;p;p;p;p;o13b+4");
        Due.is("14: ordered(0, 0)", x.ordered(0, 0), 5);
        Due.is("14: ordered(0, 1)", x.ordered(0, 1), 0);
        Due.is("14: ordered(0, 2)", x.ordered(0, 2), 2);
        Due.is("14: ordered(1, 0)", x.ordered(1, 0), 2);
        Due.is("14: ordered(4, 1)", x.ordered(4, 1), 8193);
        Look.carryOut(x, "k;c0");
        Due.is("14: ordered(0, 0), also with one who came", x.ordered(0, 0), 5);
        Look.carryOut(x, "x");
        Due.is("14: ordered(0, 0) on the next day", x.ordered(0, 0), 2);
        Due.is("14: ordered(3, 1) on the next day", x.ordered(3, 1), 8193);
        for (int bad : new int[] {-1, 5, LEAST, MOST}) {
            Due.is("14: ordered(" + bad + ", 0)", x.ordered(bad, 0), Look.BAD_VALUE);
            Due.is("14: ordered(" + bad + ", 3)", x.ordered(bad, 3), Look.NO_SUCH);
        }
        for (int bad : new int[] {-1, 3, LEAST, MOST}) {
            Due.is("14: ordered(0, " + bad + ")", x.ordered(0, bad), Look.NO_SUCH);
        }
    }

    private static void count() {
        CanteenPlates x = Look.after("p;p;p;v2+20;o0a;o1a;o2b;k;c0;x");
        // Cooked 3, 2 and 1; one plate of dish 0 eaten; all the rest is kept.
        int[] counts = {1, 3, 0, 6, 1, 0, 5, 32, 0, 2, 1, 4, 3, 5, 0, 1};
        for (int what = 0; what < counts.length; what++) {
            Due.is("15: count(" + what + ")", x.count(what), counts[what]);
        }
        x.set(CanteenPlates.STRIKES, 1);
        x.set(CanteenPlates.SPARE, 2);
        x.set(CanteenPlates.BAN, 7);
        x.set(CanteenPlates.KEEP, 0);
        Look.carryOut(x, "k;c0b;x;k");
        Look.write(x, "p;k;%");
        // Cooked 3 + 0 + 0 + 1 on day 1, and 2 of each on day 2; four kept ones thrown, one new.
        int[] later = {2, 3, 1, 6 + 1 + 6, 2, 5, 6, 30, 6, 2, 2, 0, 1, 7, 5, 6};
        for (int what = 0; what < later.length; what++) {
            Due.is("15: count(" + what + ")", x.count(what), later[what]);
        }
        for (int bad : new int[] {-1, 16, 17, LEAST, MOST}) {
            Due.is("15: count(" + bad + ")", x.count(bad), Look.BAD_VALUE);
        }
    }

    private static void why() {
        CanteenPlates x = Look.after("p;p;o0a;k;x;o0a;k;x;o0a;k;x;v0+30");
        x.set(CanteenPlates.BAN, 1);
        Due.is("16: why(0, 4, 0), the ban lasts for day 7", x.why(0, 4, 0), 2);
        Look.carryOut(x, "k;x");
        Due.is("16: why(0, 3, 0), the ban lasts for day 7", x.why(0, 3, 0), 2);
        Due.is("16: why(0, 4, 0), on day 8", x.why(0, 4, 0), 0);
        Due.is("16: order(0, 4, 0)", x.order(0, 4, 0), 29);
        Due.is("16: why(0, 4, 1)", x.why(0, 4, 1), 3);
        x.cook();
        Due.is("16: why(0, 0, 0), cooked goes ahead of the ban", x.why(0, 0, 0), 1);
        Due.is("16: why(1, 0, 0)", x.why(1, 0, 0), 1);
        Due.is("16: why(1, 1, 0)", x.why(1, 1, 0), 0);
        CanteenPlates y = Look.after("p;o0a;o0a+1;o0a+2;o0a+3");
        y.price(4, 2, 2);
        Due.is("16: why(0, 4, 1) with one voucher", y.why(0, 4, 1), 0);
        Due.is("16: why(0, 4, 2) with one voucher for two", y.why(0, 4, 2), 4);
        Due.is("16: why(0, 0, 2), an order goes ahead of vouchers", y.why(0, 0, 2), 3);
        y.order(0, 4, 0);
        Due.is("16: why(0, 4, 0)", y.why(0, 4, 0), 3);
        y.cook();
        Due.is("16: why(0, 0, 0), cooked goes ahead of an order", y.why(0, 0, 0), 1);
        CanteenPlates z = Look.after("p;o0a;o0b+1;o0c+2");
        z.set(CanteenPlates.STRIKES, 1);
        z.set(CanteenPlates.BAN, 1);
        Look.carryOut(z, "k;x");
        Due.is("16: why(0, 0, 1), the ban goes ahead of an order", z.why(0, 0, 1), 2);
        Due.is("16: why(0, 1, 1)", z.why(0, 1, 1), 3);
        Due.is("16: why(0, 2, 1)", z.why(0, 2, 1), 0);
        whyErrors();
    }

    private static void whyErrors() {
        CanteenPlates x = Look.after("p");
        for (int bad : new int[] {-1, 1, 14, LEAST, MOST}) {
            Due.is("16: why(" + bad + ", 0, 0)", x.why(bad, 0, 0), Look.NO_SUCH);
            Due.is("16: why(" + bad + ", 5, 0)", x.why(bad, 5, 0), Look.NO_SUCH);
        }
        for (int bad : new int[] {-1, 3, LEAST, MOST}) {
            Due.is("16: why(0, 0, " + bad + ")", x.why(0, 0, bad), Look.NO_SUCH);
            Due.is("16: why(0, -1, " + bad + ")", x.why(0, -1, bad), Look.NO_SUCH);
        }
        for (int bad : new int[] {-1, 5, LEAST, MOST}) {
            Due.is("16: why(0, " + bad + ", 0)", x.why(0, bad, 0), Look.BAD_VALUE);
        }
    }

    private static void unsurest() {
        Due.is("17: unsurest(0), nobody came or stayed away", Look.after("p;o0a;k").unsurest(0), Look.NONE);
        CanteenPlates x = Look.after("p;p;p;o0a;o1b;o2c;k;c0;c1;c2;x");
        Due.is("17: unsurest(0), nobody has a doubt", x.unsurest(0), Look.NONE);
        Due.is("17: unsurest(1), nobody has a doubt", x.unsurest(1), Look.NONE);
        Look.carryOut(x, "o1b;k;x;o0a;o1b;k;c0;c1;x;o1b;k;c1;x");
        Due.is("17: unsurest(0)", x.unsurest(0), 1);
        Due.is("17: unsurest(1), one of four", x.unsurest(1), 25);
        Look.carryOut(x, "v1+9;o1a;k;c1;x;o1a;k;c1;x;o1a;k;c1;x");
        Due.is("17: unsurest(1), one of seven, rounded down", x.unsurest(1), 14);
        Look.carryOut(x, "o2a;k;x");
        Due.is("17: unsurest(0)", x.unsurest(0), 2);
        Due.is("17: unsurest(1)", x.unsurest(1), 50);
        for (int bad : new int[] {-1, 2, LEAST, MOST}) {
            Due.is("17: unsurest(" + bad + ")", x.unsurest(bad), Look.BAD_VALUE);
            Due.is("17: unsurest(" + bad + ")", new CanteenPlates().unsurest(bad), Look.BAD_VALUE);
        }
    }

    private static void unsurestTies() {
        CanteenPlates x = Look.after("p;p;p;o0a;o1b;o2c;k;x");
        Due.is("17: unsurest(0), the lowest of three alike", x.unsurest(0), 0);
        Look.carryOut(x, "o2a;k;x");
        Due.is("17: unsurest(0), the one of more times", x.unsurest(0), 2);
        Look.carryOut(x, "o1a;k;x");
        Due.is("17: unsurest(0), the lower one of two", x.unsurest(0), 1);
        Look.carryOut(x, "o2a;o1a;k;c2;c1;x");
        Due.is("17: unsurest(0), a greater doubt goes ahead of times", x.unsurest(0), 0);
        Due.is("17: unsurest(1)", x.unsurest(1), 100);
        // Person 0 stayed away once of three times; person 1 twice, of five times and then of six.
        CanteenPlates y = Look.after("p;p;v0+20;v1+20", "o0a;k;x;o0a;o1a;k;c0;x;o0a;o1a;k;c0;c1;x",
            "o1a;k;c1;x;o1a;k;x", "o1a;k;c1;x");
        Due.is("17: of(0, 5)", y.of(0, 5), 2);
        Due.is("17: of(1, 5)", y.of(1, 5), 3);
        Due.is("17: unsurest(0), two of five", y.unsurest(0), 1);
        Due.is("17: unsurest(1), two of five", y.unsurest(1), 40);
        Look.carryOut(y, "o1a;k;c1;x");
        Due.is("17: unsurest(0), two of six", y.unsurest(0), 1);
        Due.is("17: unsurest(1), two of six", y.unsurest(1), 33);
    }

    /** One time of a hundred is a doubt of 1, one of 101 is none. */
    private static void smallestDoubt() {
        CanteenPlates x = Look.after("p;o0a;k;x");
        for (int week = 0; week < 19; week++) {
            Look.carryOut(x, "v0+5;o0a;k;c0;x;o0a;k;c0;x;o0a;k;c0;x;o0a;k;c0;x;o0a;k;c0;x");
        }
        Look.carryOut(x, "o0a;k;c0;x;o0a;k;c0;x;o0a;k;c0;x;o0a;k;c0;x");
        Due.is("17: of(0, 5)", x.of(0, 5), 99);
        Due.is("17: unsurest(0)", x.unsurest(0), 0);
        Due.is("17: unsurest(1)", x.unsurest(1), 1);
        Look.carryOut(x, "v0+5;o0a;k;c0;x");
        Due.is("17: unsurest(0), one of 101", x.unsurest(0), Look.NONE);
        Due.is("17: unsurest(1), one of 101", x.unsurest(1), Look.NONE);
    }

    /** Fourteen people who all stay away, and may not order then. */
    private static void allFourteen() {
        CanteenPlates x = Look.after("p;p;p;p;p;p;p;p;p;p;p;p;p;p");
        x.set(CanteenPlates.STRIKES, 1);
        for (int person = 0; person < 14; person++) {
            x.order(person, 0, 1);
        }
        Due.is("13: ofDish(1, 2)", x.ofDish(1, 2), 14);
        Due.is("14: ordered(0, 1)", x.ordered(0, 1), 16383);
        Due.is("8: cook()", x.cook(), 17);
        Due.is("11: close()", x.close(), 14);
        Due.is("15: count(7)", x.count(7), 56);
        Due.is("15: count(8)", x.count(8), 16383);
        Due.is("15: count(9)", x.count(9), 14);
        Due.is("17: unsurest(0)", x.unsurest(0), 0);
        Due.is("18: firstOrder(13)", x.firstOrder(13), Look.NONE);
        Due.is("24: undo()", x.undo(), 5);
        Due.is("15: count(8)", x.count(8), 0);
    }

    private static void firstOrder() {
        CanteenPlates x = Look.after("p;o0b");
        Due.is("18: firstOrder(0), today is taken", x.firstOrder(0), 3);
        Look.carryOut(x, "o0a+1;o0a+2");
        x.price(3, 0, 3);
        Due.is("18: firstOrder(0), two vouchers for dish 1", x.firstOrder(0), 10);
        x.price(3, 1, 3);
        Due.is("18: firstOrder(0), two vouchers for dish 2", x.firstOrder(0), 11);
        x.price(3, 2, 3);
        Due.is("18: firstOrder(0), two vouchers for the day behind", x.firstOrder(0), 12);
        x.order(0, 4, 2);
        Due.is("18: firstOrder(0)", x.firstOrder(0), Look.NONE);
        x.price(3, 2, 1);
        Due.is("18: firstOrder(0)", x.firstOrder(0), 11);
        for (int bad : new int[] {-1, 1, 14, LEAST, MOST}) {
            Due.is("18: firstOrder(" + bad + ")", x.firstOrder(bad), Look.NO_SUCH);
        }
        CanteenPlates y = Look.after("p");
        Due.is("18: firstOrder(0)", y.firstOrder(0), 0);
        y.cook();
        Due.is("18: firstOrder(0) behind the cooking", y.firstOrder(0), 3);
        CanteenPlates z = Look.after("p;o0a");
        z.set(CanteenPlates.STRIKES, 1);
        z.set(CanteenPlates.BAN, 4);
        Look.carryOut(z, "k;x");
        Due.is("18: firstOrder(0) behind the ban", z.firstOrder(0), 12);
        CanteenPlates none = Look.after("p;o0a+1;o0a+2;o0a+3;o0a+4;k;c0a");
        Due.is("18: firstOrder(0) without vouchers", none.firstOrder(0), Look.NONE);
    }

    private static void wasted() {
        CanteenPlates x = new CanteenPlates();
        x.set(CanteenPlates.KEEP, 0);
        x.cook();
        Due.is("19: wasted(), nothing was thrown yet", x.wasted(), Look.NONE);
        Look.carryOut(x, "p;c0c;x");
        Due.is("19: wasted(), all of dish 0 and 1", x.wasted(), 0);
        Look.carryOut(x, "k;c0a;x");
        Due.is("19: wasted(), half of dish 0, all of dish 1", x.wasted(), 1);
        CanteenPlates y = new CanteenPlates();
        y.set(CanteenPlates.KEEP, 0);
        Look.carryOut(y, "p;p;p;v0+9;o0a;o1a;o2b;k;c0;c1;c2;x");
        // Thrown: 1 of 3, 1 of 2, 1 of 1.
        Due.is("19: wasted()", y.wasted(), 2);
        Due.is("19: wasted() is no change", y.count(15), 2);
        // Nobody has a doubt: again 1 of 1, 1 of 1, 1 of 4 are thrown.
        Look.carryOut(y, "o0c;o1c;o2c;k;c0;c1;c2;x");
        Due.is("19: wasted(), 2 of 4, 2 of 3, 2 of 5", y.wasted(), 1);
    }

    private static void wastedTies() {
        CanteenPlates x = new CanteenPlates();
        x.set(CanteenPlates.KEEP, 0);
        Look.carryOut(x, "p;p;k;c0a;x;k;c0a;x;k;x");
        // Thrown: 1 of 3, 3 of 3, 3 of 3.
        Due.is("19: wasted(), the lower one of two", x.wasted(), 1);
        CanteenPlates y = new CanteenPlates();
        y.set(CanteenPlates.KEEP, 0);
        y.set(CanteenPlates.SPARE, 9);
        Look.carryOut(y, "k;x;k;x;k;x;k;x;k;x;k;x;k;x;k;x;k;x;k;x;k;x;k;x");
        Look.carryOut(y, "p;k;c0a;x");
        Due.is("19: ofDish(0, 3)", y.ofDish(0, 3), 117);
        Due.is("19: wasted(), 99 and 100 percent", y.wasted(), 1);
        // 231 of 234 and 232 of 234 are both 99 when they are rounded down; 233 are, too.
        Look.carryOut(y, "v0+30;k;c0a;x;k;c0b;x;k;c0c;x");
        Look.carryOut(y, "k;x;k;x;k;x;k;x;k;x;k;x;k;x;k;x;k;x;k;x");
        Due.is("19: ofDish(0, 3)", y.ofDish(0, 3), 234);
        Due.is("19: ofDish(0, 5)", y.ofDish(0, 5), 232);
        Due.is("19: ofDish(1, 5)", y.ofDish(1, 5), 233);
        Due.is("19: wasted(), rounded down they are the same", y.wasted(), 0);
    }

    private static void questionsChangeNothing() {
        String run = "p;p;p;o0a;o1b;o2a+1;k;c0;x;o1c;k;x;o1a+3";
        CanteenPlates x = Look.after(run);
        CanteenPlates twin = Look.after(run);
        String first = Look.atAll(x);
        Due.same("questions change nothing", Look.atAll(x), first);
        Due.same("questions change nothing", Look.atAll(twin), first);
        Due.is("questions record nothing", x.count(15), 1);
    }
}
