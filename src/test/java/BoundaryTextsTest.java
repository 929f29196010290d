/** The boundaries that the document's "Texts" and promises 20 to 23 name: a method for each sentence. */
public final class BoundaryTextsTest {
    private static final String FULL = "k;x;k;x;k;x;k;x;k;x;k;x;k;x;k;x;k;x;k;x;k;x;k;x;k;x;k;x;k;x;k;x;k;x;k;x;k;x;k;x;";

    public static void main(String[] args) {
        eightyCharacters();
        ordersBySemicolon();
        numbers();
        digits();
        dishes();
        todayWithoutDigit();
        comeWithoutDish();
        faultAtCharacter();
        faultAboveNinetyNine();
        faultAtEnd();
        putBits();
        putOneToEight();
        putErrors();
        putTooMany();
        wipe();
        faultNone();
        upToTheFirstError();
        aChangeAlsoOfNone();
        badTextStays();
        Due.end();
    }

    private static CanteenPlates written(String text) {
        CanteenPlates x = new CanteenPlates();
        Look.write(x, text);
        return x;
    }

    private static void fault(String text, int due) {
        CanteenPlates x = written(text);
        Due.is("count(14) of " + text, x.count(14), text.length());
        Due.is("fault() of " + text, x.fault(), due);
        Due.is("carryOut() of " + text, Math.min(0, x.carryOut()), due == Look.NONE ? 0 : Look.BAD_TEXT);
    }

    private static void eightyCharacters() {
        Due.sentence("The pad is a text of at most 80 characters, a row of orders");
        for (int last = 1; last <= 8; last++) {
            CanteenPlates x = written(FULL.substring(0, 80 - last));
            Due.is("put() to 80, " + last + " characters", x.put(Look.packed(FULL.substring(80 - last))), 80);
            Due.is("put() to 81", x.put('k'), Look.TOO_MANY);
            CanteenPlates y = written(FULL.substring(0, 81 - last));
            Due.is("put() to 81, " + last + " characters", y.put(Look.packed(FULL.substring(80 - last))), Look.TOO_MANY);
            Due.is("count(14)", y.count(14), 81 - last);
        }
        CanteenPlates full = written(FULL.substring(0, 79));
        Due.is("carryOut() of 79 characters", full.carryOut(), 40);
        fault(FULL.substring(0, 76) + "c9;k", Look.NONE);
        fault(FULL.substring(0, 76) + "c99a", Look.NONE);
        fault(FULL.substring(0, 76) + "c9;~", 79);
        CanteenPlates most = written("p" + ";p".repeat(39));
        Due.is("carryOut() of 40 orders, there are 14 people", most.carryOut(), 14);
        fault(("p" + ";p".repeat(39)), Look.NONE);
    }

    private static void ordersBySemicolon() {
        Due.sentence("text = order { \";\" order }");
        fault("p", Look.NONE);
        fault("p;k", Look.NONE);
        fault("p;k;x", Look.NONE);
        fault(";", 0);
        fault(";p", 0);
        fault("p;", 2);
        fault("p;;", 2);
        fault("p;;k", 2);
        fault("pk", 1);
        fault("p:k", 1);
        fault("p<k", 1);
    }

    /** Each number from 0 to 120, also with leading zeros, at each place where a number stands. */
    private static void numbers() {
        Due.sentence("A digit is 0 to 9, a number 0 to 99, without leading zeros.");
        for (int number = 0; number <= 120; number++) {
            boolean good = number <= 99;
            fault("v" + number + "+1", good ? Look.NONE : 3);
            fault("v1+" + number, good ? Look.NONE : 5);
            fault("o" + number + "a", good ? Look.NONE : 3);
            fault("c" + number, good ? Look.NONE : 3);
            fault("c" + number + "b", good ? Look.NONE : 3);
        }
        for (int digit = 0; digit <= 9; digit++) {
            fault("v0" + digit + "+1", 2);
            fault("v1+0" + digit, 4);
            fault("o0" + digit + "a", 2);
            fault("c0" + digit, 2);
        }
        // The numbers are what they say.
        CanteenPlates x = new CanteenPlates();
        Look.people(x, 14);
        for (int person = 0; person < 14; person++) {
            Due.is("carryOut() of v.. for " + person, Look.carryOut(x, "v" + person + "+" + (person + 1)), 1);
            Due.is("of(" + person + ", 0)", x.of(person, 0), person + 6);
        }
        Due.is("carryOut() of v0+30", Look.carryOut(x, "v0+30"), 1);
        Due.is("of(0, 0)", x.of(0, 0), 30);
        Due.is("carryOut() of v0+31", Look.carryOut(x, "v0+31"), 0);
        Due.is("carryOut() of v0+0", Look.carryOut(x, "v0+0"), 0);
        Due.is("carryOut() of v14+1", Look.carryOut(x, "v14+1"), 0);
    }

    private static void digits() {
        Due.sentence("\"o\" number dish [ \"+\" digit ]");
        for (int digit = 0; digit <= 9; digit++) {
            fault("o0a+" + digit, Look.NONE);
            fault("o0a+1" + digit, 5);
            fault("o0a+0" + digit, 5);
            CanteenPlates x = Look.after("p");
            Due.is("carryOut() of o0a+" + digit, Look.carryOut(x, "o0a+" + digit), digit <= 4 ? 1 : 0);
            Due.is("of(0, 2) behind o0a+" + digit, x.of(0, 2), digit <= 4 ? 1 << digit : 0);
        }
        for (char sign : new char[] {'/', ':', 'a', ';', '+', '-'}) {
            fault("o0a+" + sign, 4);
        }
    }

    private static void dishes() {
        Due.sentence("The dishes a, b and c are 0, 1 and 2.");
        for (int dish = 0; dish < 3; dish++) {
            char sign = (char) ('a' + dish);
            CanteenPlates x = Look.after("p;p;o0" + sign + ";k;c1" + sign);
            Due.is("ordered(0, " + dish + ")", x.ordered(0, dish), 1);
            Due.is("ofDish(" + dish + ", 4)", x.ofDish(dish, 4), 1);
        }
        for (char sign : new char[] {'`', 'd', 'A', 'B', 'C', '@'}) {
            fault("o0" + sign, 2);
            fault("c0" + sign, 2);
            fault("o10" + sign, 3);
            fault("c10" + sign, 3);
        }
    }

    private static void todayWithoutDigit() {
        Due.sentence("\"o\": order() of a person, so many days ahead (0 without)");
        Due.is("of(0, 2) behind o0b", Look.after("p;o0b").of(0, 2), 1);
        Due.is("of(0, 2) behind o0b+0", Look.after("p;o0b+0").of(0, 2), 1);
        // What one order says ahead is not kept for the next one.
        Due.is("of(0, 2) behind o0b+3;o0b", Look.after("p;o0b+3;o0b").of(0, 2), 9);
    }

    private static void comeWithoutDish() {
        Due.sentence("\"c\": come(), without a dish: with the order");
        CanteenPlates x = Look.after("p;p;o0b;k");
        Due.is("carryOut() of c1, without an order", Look.carryOut(x, "c1"), 0);
        Due.is("carryOut() of c0b, with an order", Look.carryOut(x, "c0b"), 0);
        Due.is("carryOut() of c0", Look.carryOut(x, "c0"), 1);
        Due.is("of(0, 5)", x.of(0, 5), 1);
        Due.is("carryOut() of c1b", Look.carryOut(x, "c1b"), 1);
        Due.is("of(1, 0)", x.of(1, 0), 3);
        Due.is("of(1, 5)", x.of(1, 5), 0);
        // What one order says of a dish is not kept for the next one.
        CanteenPlates y = Look.after("p;p;o1c;k");
        Due.is("carryOut() of c0a;c1", Look.carryOut(y, "c0a;c1"), 2);
        Due.is("of(1, 5)", y.of(1, 5), 1);
    }

    /** Each character at each place of a text: at the first one that cannot stand is the fault. */
    private static void faultAtCharacter() {
        Due.sentence("The fault is the index of the first character that cannot stand at its place when the text is read from left to "
            + "right");
        String[] starts = {"", "p", "k", "x", "v", "v1", "v12", "v0", "v1+", "v1+1", "v1+12", "v1+0", "o", "o1", "o12", "o0",
            "o1a", "o1a+", "o1a+1", "c", "c1", "c12", "c0", "c1a"};
        String digits = "0123456789";
        String[] next = {"pvockx", ";", ";", ";", digits, digits + "+", "+", "+", digits, digits + ";", ";", ";", digits,
            digits + "abc", "abc", "abc", "+;", digits, ";", digits, digits + "abc;", "abc;", "abc;", ";"};
        for (int start = 0; start < starts.length; start++) {
            for (String before : new String[] {"", "p;", "o1a+1;c1;"}) {
                for (char sign = 33; sign <= 126; sign++) {
                    String text = before + starts[start] + sign;
                    boolean good = next[start].indexOf(sign) >= 0;
                    int answer = written(text).fault();
                    boolean faultThere = answer == text.length() - 1;
                    Due.is("fault() at the last character of " + text + " (" + answer + ")", faultThere ? 1 : 0, good ? 0 : 1);
                    int first = written(text + "?").fault();
                    Due.is("fault() of " + text + "?", first, good ? text.length() : text.length() - 1);
                }
            }
        }
    }

    private static void faultAboveNinetyNine() {
        Due.sentence("(also of a digit by which a number would be above 99)");
        fault("v99+99", Look.NONE);
        fault("v100+1", 3);
        fault("v990+1", 3);
        fault("v1+100", 5);
        fault("v1+999", 5);
        fault("v1+1000", 5);
        fault("o100a", 3);
        fault("c100", 3);
        fault("c999a", 3);
    }

    private static void faultAtEnd() {
        Due.sentence("if there is none and the text ends too early (also if it is empty), it is the length of the text.");
        for (String text : new String[] {"", "v", "v1", "v12", "v0", "v1+", "o", "o1", "o12", "o1a+", "c", "p;", "k;x;", "p;v",
            "p;v1+", "c1a;", "c1;o"}) {
            fault(text, text.length());
        }
        for (String text : new String[] {"p", "k", "x", "v1+1", "v1+0", "o1a", "o1a+0", "c1", "c1a"}) {
            fault(text, Look.NONE);
        }
        fault(FULL, 80);
        fault(FULL.substring(0, 78) + "v1", 80);
    }

    private static void putBits() {
        Due.sentence("its lowest 8 bits are the last character, the next 8 bits the one before, and so on; 8 bits that are 0 mean that "
            + "there are no more characters, and everything above them has to be 0, too.");
        CanteenPlates x = new CanteenPlates();
        Due.is("put(p;k)", x.put((long) 'p' << 16 | ';' << 8 | 'k'), 3);
        Due.is("carryOut() of p;k", x.carryOut(), 2);
        Due.is("count(1)", x.count(1), 1);
        Due.is("count(2)", x.count(2), 1);
        for (int zero = 0; zero < 8; zero++) {
            long below = Look.packed("kkkkkkkk".substring(8 - zero));
            Due.is("put() of " + zero + " characters", written("").put(below), zero == 0 ? Look.BAD_VALUE : zero);
            for (int bit = 8 * zero + 8; bit < 64; bit++) {
                Due.is("put() of " + zero + " characters, 8 bits of 0 and the bit " + bit, written("").put(below | 1L << bit),
                    Look.BAD_VALUE);
            }
        }
    }

    private static void putOneToEight() {
        Due.sentence("characters: 1 to 8 characters");
        for (int many = 1; many <= 8; many++) {
            CanteenPlates x = new CanteenPlates();
            for (int times = 1; times <= 80 / many; times++) {
                Due.is("put() of " + many, x.put(Look.packed("~!~!~!~!".substring(8 - many))), times * many);
            }
        }
        Due.is("put() of none", new CanteenPlates().put(0), Look.BAD_VALUE);
    }

    /** Each code at each of the eight places, with good characters everywhere else. */
    private static void putErrors() {
        Due.sentence("BAD_VALUE if there is no character, a code is not 33 to 126, or a bit above 8 bits that are 0 is not 0");
        for (int place = 0; place < 8; place++) {
            for (int many = place + 1; many <= 8; many++) {
                for (long code = 0; code < 256; code++) {
                    long others = Look.packed("kkkkkkkk".substring(8 - many)) & ~(255L << 8 * place);
                    boolean good = code >= 33 && code <= 126 || code == 0 && place == many - 1 && place > 0;
                    int due = !good ? Look.BAD_VALUE : code == 0 ? many - 1 : many;
                    Due.is("put() of " + many + " with the code " + code + " at " + place + " from the last",
                        new CanteenPlates().put(others | code << 8 * place), due);
                }
            }
        }
        for (long bad : new long[] {0, -1, Long.MIN_VALUE, Long.MAX_VALUE, 1L << 32, -1L << 32}) {
            Due.is("put(" + bad + ")", new CanteenPlates().put(bad), Look.BAD_VALUE);
        }
    }

    private static void putTooMany() {
        Due.sentence("TOO_MANY if the pad would be longer than 80.");
        for (int before = 70; before <= 80; before++) {
            for (int many = 1; many <= 8; many++) {
                CanteenPlates x = written(FULL.substring(0, before));
                int due = before + many <= 80 ? before + many : Look.TOO_MANY;
                Due.is("put() of " + many + " behind " + before, x.put(Look.packed("kkkkkkkk".substring(8 - many))), due);
                Due.is("count(14)", x.count(14), due == Look.TOO_MANY ? before : due);
            }
            Due.is("put() of a bad one behind " + before, written(FULL.substring(0, before)).put(127), Look.BAD_VALUE);
        }
    }

    private static void wipe() {
        Due.sentence("Empties the pad, and returns the length that it had.");
        for (int length = 0; length <= 80; length++) {
            CanteenPlates x = written(FULL.substring(0, length));
            Due.is("wipe() of " + length, x.wipe(), length);
            Due.is("count(14)", x.count(14), 0);
            Due.is("wipe() of nothing", x.wipe(), 0);
            Due.is("fault() of nothing", x.fault(), 0);
            Due.is("put() behind it", x.put('p'), 1);
            Due.is("fault() behind it", x.fault(), Look.NONE);
        }
    }

    private static void faultNone() {
        Due.sentence("Returns the fault of the pad, NONE if there is none.");
        CanteenPlates x = new CanteenPlates();
        Due.is("fault() of nothing", x.fault(), 0);
        x.put('p');
        Due.is("fault() of p", x.fault(), Look.NONE);
        Due.is("fault() of p again", x.fault(), Look.NONE);
        x.put(';');
        Due.is("fault() of p;", x.fault(), 2);
        x.put('q');
        Due.is("fault() of p;q", x.fault(), 2);
        x.put('k');
        Due.is("fault() of p;qk", x.fault(), 2);
    }

    private static void upToTheFirstError() {
        Due.sentence("Carries the orders of the pad out, one after the other, up to the first one that returns an error, and empties "
            + "the pad.");
        // At each place of a row of orders an error; those behind it would do.
        String[] orders = {"p", "p", "v0+1", "o0a", "k", "c0", "c1b"};
        int[] counts = {1, 2, 2, 2, 2, 2, 2};
        for (int place = 0; place <= orders.length; place++) {
            StringBuilder text = new StringBuilder();
            for (int order = 0; order < orders.length; order++) {
                text.append(order == place ? "c99;" : "").append(orders[order]).append(order < orders.length - 1 ? ";" : "");
            }
            text.append(place == orders.length ? ";c99" : "");
            CanteenPlates x = new CanteenPlates();
            Due.is("carryOut() of " + text, Look.carryOut(x, text.toString()), place);
            Due.is("count(1) behind " + text, x.count(1), place == 0 ? 0 : counts[place - 1]);
            Due.is("count(2) behind " + text, x.count(2), place > 4 ? 1 : 0);
            Due.is("count(14) behind " + text, x.count(14), 0);
            Due.is("count(15) behind " + text, x.count(15), 1);
        }
        for (String error : new String[] {"x", "c0", "c0a", "o1a", "v1+1", "v0+31", "o0a+5"}) {
            Due.is("carryOut() of p;" + error + ";k", Look.after("p;" + error + ";k").count(2), 0);
        }
        CanteenPlates y = Look.after("p;p;p;p;p;p;p;p;p;p;p;p;p");
        Due.is("carryOut() of p;p;k with 13 people", Look.carryOut(y, "p;p;k"), 1);
        Due.is("carryOut() of k;k", Look.carryOut(y, "k;k"), 1);
        Due.is("carryOut() of x;x", Look.carryOut(y, "x;x"), 1);
    }

    private static void aChangeAlsoOfNone() {
        Due.sentence("This is a change (one, with all of them; also if none is carried out).");
        CanteenPlates x = Look.after("p");
        String before = Look.atState(x);
        Due.is("carryOut() of many", Look.carryOut(x, "p;p;k;x;o0a"), 5);
        Due.is("count(15), one change", x.count(15), 2);
        Due.is("undo() of all of them", x.undo(), 1);
        Due.same("the state behind undo()", Look.atState(x), before);
        Due.is("count(14), the pad stays empty", x.count(14), 0);
        Due.is("carryOut() of an error", Look.carryOut(x, "x;p"), 0);
        Due.is("count(15), also if none is carried out", x.count(15), 2);
        Due.is("undo() of none", x.undo(), 1);
        Due.same("the state behind undo()", Look.atState(x), before);
        Due.is("undo()", x.undo(), 0);
        for (int times = 1; times <= 8; times++) {
            Look.carryOut(x, "x");
            Due.is("count(15), none carried out " + times + " times", x.count(15), Math.min(6, times));
        }
    }

    private static void badTextStays() {
        Due.sentence("Returns how many orders were carried out; BAD_TEXT if the pad has a fault (then it stays).");
        CanteenPlates x = Look.after("p");
        String before = Look.atState(x);
        Due.is("carryOut() of nothing", x.carryOut(), Look.BAD_TEXT);
        for (String text : new String[] {"p;", "p;k;q", "p;k;v0", "?"}) {
            Look.write(x, text);
            Due.is("carryOut() of " + text, x.carryOut(), Look.BAD_TEXT);
            Due.is("count(14) behind " + text, x.count(14), text.length());
            Due.is("count(15) behind " + text, x.count(15), 1);
            Due.same("the state behind " + text, Look.atState(x), before);
            x.wipe();
        }
        Look.write(x, "p;");
        x.carryOut();
        x.put('k');
        Due.is("carryOut() of what stayed, completed", x.carryOut(), 2);
    }
}
