/** Promises 20 to 23: the pad and the orders on it. */
public final class TextsTest {
    public static void main(String[] args) {
        put();
        putLength();
        wipe();
        goodTexts();
        faults();
        longTexts();
        carryOut();
        carryOutErrors();
        carryOutHalf();
        Due.end();
    }

    private static void put() {
        CanteenPlates x = new CanteenPlates();
        Due.is("20: put('p')", x.put('p'), 1);
        Due.is("20: put(';k')", x.put(';' << 8 | 'k'), 3);
        Due.is("20: fault()", x.fault(), Look.NONE);
        Due.is("20: put(';o0a;o1c')", x.put(Look.packed(";o0a;o1c")), 11);
        Due.is("20: fault()", x.fault(), Look.NONE);
        Due.is("20: put() of the lowest and highest code", x.put(33 << 8 | 126), 13);
        Due.is("20: fault()", x.fault(), 11);
        Due.is("20: count(14)", x.count(14), 13);
        long[] bad = {0, 32, 127, 128, 255, 1, 10, -1, Long.MIN_VALUE, Long.MAX_VALUE, 'p' << 8, 'p' << 8 | 32,
            'p' << 16 | 'k', (long) 'p' << 56, (long) 'p' << 56 | 'k', 32 << 8 | 'p', 127 << 8 | 'p', 200 << 8 | 'p',
            Look.packed("ppppppp") << 8, Look.packed("pppp") << 32 | 'p', 0x80L << 56 | Look.packed("ppppppp"),
            0xFFL << 56 | Look.packed("ppppppp"), 1L << 56 | Look.packed("pppppp"), 1L << 32 | 'p'};
        for (long characters : bad) {
            Due.is("20: put(" + characters + ")", x.put(characters), Look.BAD_VALUE);
        }
        Due.is("20: count(14)", x.count(14), 13);
        Due.is("20: count(15), it is no change", x.count(15), 0);
        CanteenPlates y = new CanteenPlates();
        Due.is("20: put() of high codes", y.put(0x7E7E7E7E7E7E7E7EL), 8);
        for (int code = 33; code <= 126; code++) {
            Due.is("20: put(" + code + ")", new CanteenPlates().put(code), 1);
        }
        putInOrder();
    }

    /** The lowest 8 bits are the last character: the text is o12b+3, and no other one. */
    private static void putInOrder() {
        CanteenPlates x = Look.after("p;p;p;p;p;p;p;p;p;p;p;p;p");
        x.put(Look.packed("o1"));
        x.put(Look.packed("2b+3"));
        Due.is("20: carryOut()", x.carryOut(), 1);
        Due.is("20: ordered(3, 1)", x.ordered(3, 1), 1 << 12);
    }

    private static void putLength() {
        CanteenPlates x = new CanteenPlates();
        for (int times = 1; times <= 9; times++) {
            Due.is("20: put()", x.put(Look.packed("k;x;k;x;")), 8 * times);
        }
        Due.is("20: put() to 73", x.put('k'), 73);
        Due.is("20: put() above 80", x.put(Look.packed(";x;k;x;k")), Look.TOO_MANY);
        Due.is("20: put() of a bad one goes ahead", x.put(32), Look.BAD_VALUE);
        Due.is("20: count(14)", x.count(14), 73);
        Due.is("20: put() to 80", x.put(Look.packed(";x;k;x;")), 80);
        Due.is("20: put() above 80", x.put('k'), Look.TOO_MANY);
        Due.is("20: put() of none", x.put(0), Look.BAD_VALUE);
        Due.is("21: wipe()", x.wipe(), 80);
        Due.is("20: put()", x.put('k'), 1);
    }

    private static void wipe() {
        CanteenPlates x = Look.after("p;k");
        Due.is("21: wipe() of nothing", x.wipe(), 0);
        Look.write(x, "x;x;x");
        Due.is("21: wipe()", x.wipe(), 5);
        Due.is("21: count(14)", x.count(14), 0);
        Due.is("21: wipe()", x.wipe(), 0);
        Due.is("21: fault()", x.fault(), 0);
        Due.is("21: count(15), it is no change", x.count(15), 1);
        Look.write(x, "x");
        Due.is("21: fault(), nothing is left of what was wiped", x.fault(), Look.NONE);
        Due.is("21: carryOut()", x.carryOut(), 1);
    }

    private static void fault(String text, int due) {
        CanteenPlates x = new CanteenPlates();
        Look.write(x, text);
        Due.is("22: fault() of " + text, x.fault(), due);
        Due.is("22: count(14)", x.count(14), text.length());
        if (due != Look.NONE) {
            Due.is("23: carryOut() of " + text, x.carryOut(), Look.BAD_TEXT);
            Due.is("23: count(14)", x.count(14), text.length());
            Due.is("23: count(15)", x.count(15), 0);
            Due.is("23: count(1)", x.count(1), 0);
        }
    }

    private static void goodTexts() {
        String[] texts = {"p", "k", "x", "c0", "c9", "c10", "c99", "c0a", "c10b", "c99c", "o0a", "o0b", "o13c", "o99a",
            "o0a+0", "o0a+9", "o10b+4", "v0+0", "v0+1", "v10+30", "v99+99", "p;p", "k;x;k;x", "c0;c0a;c0", "o0a;o0a+1;p"};
        for (String text : texts) {
            fault(text, Look.NONE);
            fault(text + ";", text.length() + 1);
            fault(text + ";;", text.length() + 1);
            fault(text + ";p", Look.NONE);
            fault(";" + text, 0);
            fault(text + "!", text.length());
            fault(text + "~", text.length());
        }
    }

    private static void faults() {
        fault("", 0);
        fault("q", 0);
        fault("P", 0);
        fault("a", 0);
        fault("1", 0);
        fault("+", 0);
        fault("pp", 1);
        fault("p0", 1);
        fault("pk", 1);
        fault("ka", 1);
        fault("x+", 1);
        fault("v", 1);
        fault("va", 1);
        fault("v;", 1);
        fault("v+", 1);
        fault("v0", 2);
        fault("v0;", 2);
        fault("v0a", 2);
        fault("v01+2", 2);
        fault("v10", 3);
        fault("v100+1", 3);
        fault("v1+", 3);
        fault("v1+a", 3);
        fault("v1+;", 3);
        fault("v1++", 3);
        fault("v1+00", 4);
        fault("v1+05", 4);
        fault("v1+5a", 4);
        fault("v1+5+", 4);
        fault("v1+30;", 6);
        fault("v1+300", 5);
        fault("v1+999", 5);
        fault("o", 1);
        fault("oa", 1);
        fault("o0", 2);
        fault("o0;", 2);
        fault("o0+", 2);
        fault("o0d", 2);
        fault("o0A", 2);
        fault("o0`", 2);
        fault("o00a", 2);
        fault("o13", 3);
        fault("o130a", 3);
        fault("o0ab", 3);
        fault("o0a0", 3);
        fault("o0a+", 4);
        fault("o0a+;", 4);
        fault("o0a+a", 4);
        fault("o0a++", 4);
        fault("o0a+/", 4);
        fault("o0a+:", 4);
        fault("o0a+10", 5);
        fault("o0a+00", 5);
        fault("o0a+1+", 5);
        fault("c", 1);
        fault("c;", 1);
        fault("ca", 1);
        fault("c/", 1);
        fault("c:", 1);
        fault("c01", 2);
        fault("c0d", 2);
        fault("c0+", 2);
        fault("c0a+1", 3);
        fault("c0aa", 3);
        fault("c123", 3);
        fault("c100", 3);
        fault("p;o0a;c", 7);
        fault("p;o0a;q;z", 6);
        fault("p,p", 1);
        fault("p:p", 1);
        fault("p<p", 1);
    }

    private static void longTexts() {
        StringBuilder text = new StringBuilder("k");
        for (int more = 1; more < 40; more++) {
            text.append(more % 2 == 0 ? ";k" : ";x");
        }
        fault(text.toString(), Look.NONE);
        fault(text + ";", 80);
        fault(text + "0", 79);
        CanteenPlates x = new CanteenPlates();
        Due.is("23: carryOut() of 40 orders", Look.carryOut(x, text.toString()), 40);
        Due.is("23: count(0)", x.count(0), 20);
        Due.is("23: count(15)", x.count(15), 1);
        fault(text.substring(0, 74) + "v1+99;", 80);
        fault(text.substring(0, 74) + "v10+99", Look.NONE);
    }

    private static void carryOut() {
        CanteenPlates x = new CanteenPlates();
        Due.is("23: carryOut()", Look.carryOut(x, "p;p;v1+20;o0b;o1c;o1a+4;k;c0;p"), 9);
        Due.is("23: count(14)", x.count(14), 0);
        Due.is("23: count(15)", x.count(15), 1);
        Due.is("23: count(1)", x.count(1), 3);
        Due.is("23: of(1, 0)", x.of(1, 0), 23);
        Due.is("23: ordered(0, 1)", x.ordered(0, 1), 1);
        Due.is("23: ordered(0, 2)", x.ordered(0, 2), 2);
        Due.is("23: ordered(4, 0)", x.ordered(4, 0), 2);
        Due.is("23: of(0, 7)", x.of(0, 7), 1);
        Due.is("23: carryOut() of c with a dish", Look.carryOut(x, "c2b"), 1);
        Due.is("23: of(2, 0)", x.of(2, 0), 3);
        Due.is("23: of(2, 5)", x.of(2, 5), 0);
        Due.is("23: carryOut()", Look.carryOut(x, "x"), 1);
        Due.is("23: count(0)", x.count(0), 1);
        Due.is("23: of(1, 6)", x.of(1, 6), 1);
        Due.is("23: order(0, 0, 0) behind o0a+0", Look.after("p;o0a+0").of(0, 2), 1);
        Due.is("23: undo()", x.undo(), 2);
        Due.is("23: count(0)", x.count(0), 0);
    }

    private static void carryOutErrors() {
        String[] failing = {"v1+1", "v0+0", "v0+31", "v0+99", "v99+1", "o1a", "o99a", "o0a+5", "o0a+9", "c0", "c1", "c0a",
            "c99b", "x"};
        for (String order : failing) {
            CanteenPlates x = Look.after("p");
            CanteenPlates twin = Look.after("p");
            Look.write(x, order + ";p");
            Due.is("23: fault() of " + order, x.fault(), Look.NONE);
            Due.is("23: carryOut() of " + order, x.carryOut(), 0);
            Due.is("23: count(14)", x.count(14), 0);
            Due.is("23: count(15), also a change", x.count(15), 2);
            Due.same("23: nothing is carried out of " + order, Look.atState(x), Look.atState(twin));
            Due.is("23: undo() of " + order, x.undo(), 1);
        }
        CanteenPlates x = Look.after("k");
        Due.is("23: carryOut() of k when it is cooked", Look.carryOut(x, "k;x"), 0);
        CanteenPlates full = Look.after("p;p;p;p;p;p;p;p;p;p;p;p;p");
        Due.is("23: carryOut() of the last person and one more", Look.carryOut(full, "p;p;k"), 1);
        Due.is("23: count(2)", full.count(2), 0);
        CanteenPlates empty = Look.after("p");
        Due.is("23: carryOut() of nothing", empty.carryOut(), Look.BAD_TEXT);
        Due.is("23: count(15)", empty.count(15), 1);
    }

    private static void carryOutHalf() {
        CanteenPlates x = new CanteenPlates();
        Due.is("23: carryOut() up to the error", Look.carryOut(x, "p;p;o0a;o0b;o1b;k"), 3);
        Due.is("23: ordered(0, 0)", x.ordered(0, 0), 1);
        Due.is("23: ordered(0, 1)", x.ordered(0, 1), 0);
        Due.is("23: count(2)", x.count(2), 0);
        Due.is("23: count(14)", x.count(14), 0);
        Due.is("23: undo() of all of them", x.undo(), 0);
        Due.is("23: count(1)", x.count(1), 0);
        CanteenPlates y = new CanteenPlates();
        y.set(CanteenPlates.SPARE, 0);
        y.set(CanteenPlates.KEEP, 0);
        Due.is("23: coming for no plate is no error", Look.carryOut(y, "p;o0a;k;x;o0a;k;c0;x"), 8);
        Due.is("23: of(0, 5)", y.of(0, 5), 1);
        Due.is("23: of(0, 8)", y.of(0, 8), 0);
    }
}
