/** Long runs of calls, the same in every test, and all short texts, on an object and on the model of the document. */
public final class ModelTest {
    private static final int RUNS = 3000;
    private static final int CALLS = 512;
    private static final String SIGNS = "pvockx;+019abcd?";
    private static final int[] ODD = {-1, -2, 3, 4, 5, 9, 13, 14, 15, 31, 99, Integer.MIN_VALUE, Integer.MAX_VALUE};

    private final CanteenPlates x = new CanteenPlates();
    private final Model model = new Model();
    private final int run;
    private long seed;
    /** How often of a hundred an argument is odd, and how often of a hundred people come. */
    private final int odd;
    private final int faithful;

    private ModelTest(int run) {
        this.run = run;
        seed = run * 7919L + 1;
        odd = run % 4 == 0 ? 10 : 2;
        faithful = 30 + 20 * (run % 4);
    }

    public static void main(String[] args) {
        shortTexts("", 4);
        for (int run = 0; run < RUNS && !Due.anyWrong(); run++) {
            new ModelTest(run).calls();
        }
        Due.end();
    }

    /** All texts of a few signs that begin so, with each sign that has a place in texts, and some that have none. */
    private static void shortTexts(String start, int more) {
        CanteenPlates x = new CanteenPlates();
        Model model = new Model();
        x.put(Look.packed(start));
        model.put(Look.packed(start));
        Due.is("fault() of " + start, x.fault(), model.fault());
        Due.is("carryOut() of " + start, x.carryOut(), model.carryOut());
        for (int sign = 0; sign < SIGNS.length() && more > 0; sign++) {
            shortTexts(start + SIGNS.charAt(sign), more - 1);
        }
    }

    private void calls() {
        for (int call = 0; call < CALLS && !Due.anyWrong(); call++) {
            int kind = below(100);
            if (kind < 60) {
                change(below(30));
            } else if (kind < 75) {
                text(below(12));
            } else {
                question(below(16));
            }
        }
    }

    private int below(int bound) {
        seed = seed * 6364136223846793005L + 1442695040888963407L;
        return (int) ((seed >>> 33) % bound);
    }

    private int number(int bound) {
        return below(100) < odd ? ODD[below(ODD.length)] : below(bound);
    }

    private int somebody() {
        return number(Math.max(1, model.count(1)));
    }

    private void due(String call, long got, long want) {
        Due.is("run " + run + ": " + call, got, want);
    }

    private void change(int which) {
        int a = number(4);
        int b = number(5);
        int c = number(3);
        int p = somebody();
        switch (which) {
            case 0:
                int value = 1 + number(a == 1 ? 20 : 9);
                due("set(" + a + ", " + value + ")", x.set(a, value), model.set(a, value));
                break;
            case 1:
                due("price(" + b + ", " + c + ", " + (a + 1) + ")", x.price(b, c, a + 1), model.price(b, c, a + 1));
                break;
            case 2:
            case 3:
                due("person()", x.person(), model.person());
                break;
            case 4:
            case 5:
            case 6:
                int many = number(10);
                due("vouchers(" + p + ", " + many + ")", x.vouchers(p, many), model.vouchers(p, many));
                break;
            case 7:
            case 8:
                due("callOff(" + p + ", " + b + ")", x.callOff(p, b), model.callOff(p, b));
                break;
            case 9:
            case 10:
            case 11:
                due("cook()", x.cook(), model.cook());
                break;
            case 12:
            case 13:
            case 14:
                due("close()", x.close(), model.close());
                break;
            case 15:
            case 16:
            case 17:
                due("buy(" + p + ", " + c + ")", x.buy(p, c), model.buy(p, c));
                break;
            case 18:
            case 19:
            case 20:
                comeAll();
                break;
            case 21:
                states(below(8), number(2));
                break;
            default:
                due("order(" + p + ", " + b + ", " + c + ")", x.order(p, b, c), model.order(p, b, c));
                break;
        }
    }

    private void comeAll() {
        if (below(3) > 0) {
            int p = somebody();
            due("come(" + p + ")", x.come(p), model.come(p));
            return;
        }
        for (int person = 0; person < 4; person++) {
            if (below(100) < faithful) {
                due("come(" + person + ")", x.come(person), model.come(person));
            }
        }
    }

    private void states(int which, int slot) {
        if (which < 3) {
            due("undo()", x.undo(), model.undo());
        } else if (which < 6) {
            due("save(" + slot + ")", x.save(slot), model.save(slot));
        } else {
            due("restore(" + slot + ")", x.restore(slot), model.restore(slot));
        }
    }

    private void text(int which) {
        if (which < 6) {
            long characters = Look.packed(piece());
            due("put(" + characters + ")", x.put(characters), model.put(characters));
        } else if (which == 6) {
            long characters = below(3) == 0 ? -1L << below(64) : (long) below(127) << 8 * below(8) | below(127);
            due("put(" + characters + ")", x.put(characters), model.put(characters));
        } else if (which == 7) {
            due("wipe()", x.wipe(), model.wipe());
        } else if (which < 10) {
            due("fault()", x.fault(), model.fault());
        } else {
            due("carryOut()", x.carryOut(), model.carryOut());
        }
    }

    /** Up to eight characters, most of them an order behind a semicolon if one is due. */
    private String piece() {
        StringBuilder text = new StringBuilder(model.count(14) > 0 && below(20) > 0 ? ";" : "");
        char dish = (char) ('a' + number(3) % 4);
        int p = somebody() % 100;
        switch (below(10)) {
            case 0:
                text.append('p');
                break;
            case 1:
                text.append('v').append(p).append('+').append(1 + below(33));
                break;
            case 2:
            case 3:
                text.append('o').append(p).append(dish).append('+').append(below(6));
                break;
            case 4:
                text.append('o').append(p).append(dish);
                break;
            case 5:
                text.append('c').append(p).append(dish);
                break;
            case 6:
                text.append('c').append(p);
                break;
            case 7:
                text.append("k;x");
                break;
            case 8:
                text.append('k');
                break;
            default:
                text.append('x');
                break;
        }
        if (below(15) == 0) {
            text.append((char) (33 + below(94)));
        }
        return text.substring(0, Math.min(8, text.length()));
    }

    private void question(int which) {
        int p = somebody();
        int a = number(5);
        int d = number(3);
        int nine = number(9);
        switch (which) {
            case 0:
            case 1:
            case 2:
            case 3:
                due("of(" + p + ", " + nine + ")", x.of(p, nine), model.of(p, nine));
                break;
            case 4:
            case 5:
            case 6:
                due("ofDish(" + d + ", " + nine + ")", x.ofDish(d, nine), model.ofDish(d, nine));
                break;
            case 7:
                due("ordered(" + a + ", " + d + ")", x.ordered(a, d), model.ordered(a, d));
                break;
            case 8:
            case 9:
            case 10:
                int what = number(16);
                due("count(" + what + ")", x.count(what), model.count(what));
                break;
            case 11:
            case 12:
                due("why(" + p + ", " + a + ", " + d + ")", x.why(p, a, d), model.why(p, a, d));
                break;
            case 13:
                int which17 = number(2);
                due("unsurest(" + which17 + ")", x.unsurest(which17), model.unsurest(which17));
                break;
            case 14:
                due("firstOrder(" + p + ")", x.firstOrder(p), model.firstOrder(p));
                break;
            default:
                due("wasted()", x.wasted(), model.wasted());
                break;
        }
    }
}
