/** Looks at and feeds an object through its face alone; help for all tests. */
final class Look {
    static final int NO_SUCH = -1, BAD_VALUE = -2, BAD_TEXT = -3, TOO_MANY = -4, NOT_POSSIBLE = -5, NONE = -6;

    private Look() {
    }

    /** All that an object tells, but for the pad and the history, in some 270 calls at most. */
    static String atState(CanteenPlates x) {
        StringBuilder seen = new StringBuilder();
        int people = x.count(1);
        for (int what = 0; what < 14; what++) {
            seen.append(x.count(what)).append(' ');
        }
        for (int dish = 0; dish < 3; dish++) {
            seen.append("| ");
            for (int what = 0; what < 8; what++) {
                seen.append(x.ofDish(dish, what)).append(' ');
            }
            for (int ahead = 0; ahead < 5; ahead++) {
                seen.append(x.ordered(ahead, dish)).append(' ');
            }
        }
        for (int person = 0; person < people; person++) {
            seen.append("/ ");
            for (int what = 0; what < 9; what++) {
                seen.append(x.of(person, what)).append(' ');
            }
            for (int ahead = 0; ahead < 5; ahead++) {
                seen.append(x.why(person, ahead, ahead % 3)).append(' ');
            }
            seen.append(x.firstOrder(person)).append(' ');
        }
        return seen.append(x.unsurest(0)).append(' ').append(x.unsurest(1)).append(' ').append(x.wasted()).toString();
    }

    /** The same, with the pad and the history. */
    static String atAll(CanteenPlates x) {
        return atState(x) + " pad " + x.count(14) + " " + x.fault() + " history " + x.count(15);
    }

    static long packed(String characters) {
        long number = 0;
        for (int place = 0; place < characters.length(); place++) {
            number = number << 8 | characters.charAt(place);
        }
        return number;
    }

    /** Puts a text on the pad, eight characters a call. */
    static void write(CanteenPlates x, String text) {
        for (int from = 0; from < text.length(); from += 8) {
            x.put(packed(text.substring(from, Math.min(text.length(), from + 8))));
        }
    }

    /** Writes a text on the empty pad and carries it out. */
    static int carryOut(CanteenPlates x, String text) {
        write(x, text);
        return x.carryOut();
    }

    /** A new object with other settings. */
    static CanteenPlates with(int spare, int keep, int strikes, int ban) {
        CanteenPlates x = new CanteenPlates();
        x.set(CanteenPlates.SPARE, spare);
        x.set(CanteenPlates.KEEP, keep);
        x.set(CanteenPlates.STRIKES, strikes);
        x.set(CanteenPlates.BAN, ban);
        return x;
    }

    /** So many people come to work. */
    static void people(CanteenPlates x, int many) {
        for (int person = 0; person < many; person++) {
            x.person();
        }
    }

    /** So many days on which the kitchen cooks and nobody comes. */
    static void days(CanteenPlates x, int many) {
        for (int day = 0; day < many; day++) {
            x.cook();
            x.close();
        }
    }

    /** So many days on which the person orders dish 0 for today, and comes or stays away. */
    static void days(CanteenPlates x, int many, int person, boolean comes) {
        for (int day = 0; day < many; day++) {
            x.order(person, 0, 0);
            x.cook();
            if (comes) {
                x.come(person);
            }
            x.close();
        }
    }

    /** A new object behind the orders of some texts. */
    static CanteenPlates after(String... texts) {
        CanteenPlates x = new CanteenPlates();
        for (String text : texts) {
            carryOut(x, text);
        }
        return x;
    }
}
