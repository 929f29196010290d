import java.util.ArrayDeque;
import java.util.ArrayList;
import java.util.Deque;
import java.util.List;
import java.util.Map;
import java.util.TreeMap;
import java.util.regex.Matcher;
import java.util.regex.Pattern;

/**
 * The document told a second time, in another way: orders by the day they are for, states that
 * are copied whole, texts by a regular expression. Help for ModelTest.
 */
final class Model {
    private static final int NO_SUCH = -1, BAD_VALUE = -2, BAD_TEXT = -3, TOO_MANY = -4, NOT_POSSIBLE = -5, NONE = -6;
    private static final int[][] RANGES = {{0, 9}, {0, 20}, {1, 9}, {1, 20}};
    private static final String NUMBER = "(?:0|[1-9][0-9]?)";
    private static final String ORDER = "(?:p|v" + NUMBER + "\\+" + NUMBER + "|o" + NUMBER + "[abc](?:\\+[0-9])?|c"
        + NUMBER + "[abc]?|k|x)";
    private static final Pattern TEXT = Pattern.compile(ORDER + "(?:;" + ORDER + ")*");

    private static final class Order {
        final int dish;
        final int paid;

        Order(int dish, int paid) {
            this.dish = dish;
            this.paid = paid;
        }
    }

    private static final class Guest {
        int vouchers = 5;
        int strikes;
        int bannedTo = -1;
        int came;
        int away;
        int plates;
        boolean here;
        Map<Integer, Order> orders = new TreeMap<>();

        Guest copy() {
            Guest twin = new Guest();
            twin.vouchers = vouchers;
            twin.strikes = strikes;
            twin.bannedTo = bannedTo;
            twin.came = came;
            twin.away = away;
            twin.plates = plates;
            twin.here = here;
            twin.orders.putAll(orders);
            return twin;
        }

        int doubt() {
            return came + away == 0 ? 0 : 100 * away / (came + away);
        }
    }

    private static final class State {
        int day;
        boolean cooked;
        int[] settings = {1, 4, 3, 5};
        int[][] prices = {{1, 1, 1}, {1, 1, 1}, {1, 1, 1}, {1, 1, 1}, {1, 1, 1}};
        List<Guest> guests = new ArrayList<>();
        int[] kept = new int[3];
        int[] fresh = new int[3];
        int[] made = new int[3];
        int[] eaten = new int[3];
        int[] thrown = new int[3];

        State copy() {
            State twin = new State();
            twin.day = day;
            twin.cooked = cooked;
            twin.settings = settings.clone();
            for (int weekday = 0; weekday < 5; weekday++) {
                twin.prices[weekday] = prices[weekday].clone();
            }
            for (Guest guest : guests) {
                twin.guests.add(guest.copy());
            }
            twin.kept = kept.clone();
            twin.fresh = fresh.clone();
            twin.made = made.clone();
            twin.eaten = eaten.clone();
            twin.thrown = thrown.clone();
            return twin;
        }
    }

    private State now = new State();
    private final Deque<State> history = new ArrayDeque<>();
    private final State[] slots = new State[2];
    private String pad = "";

    private interface Change {
        int carryOut();
    }

    private int change(Change change) {
        State before = now.copy();
        int answer = change.carryOut();
        if (answer >= 0) {
            history.addLast(before);
            if (history.size() > 6) {
                history.removeFirst();
            }
        }
        return answer;
    }

    private boolean noPerson(int person) {
        return person < 0 || person >= now.guests.size();
    }

    private static boolean noDish(int dish) {
        return dish < 0 || dish > 2;
    }

    private int costs(int day, int dish) {
        return now.prices[day % 5][dish];
    }

    int set(int setting, int value) {
        return change(() -> {
            if (setting < 0 || setting > 3 || value < RANGES[setting][0] || value > RANGES[setting][1]) {
                return BAD_VALUE;
            }
            int previous = now.settings[setting];
            now.settings[setting] = value;
            return previous;
        });
    }

    int price(int weekday, int dish, int price) {
        return change(() -> {
            if (weekday < 0 || weekday > 4 || noDish(dish)) {
                return NO_SUCH;
            }
            if (price < 1 || price > 3) {
                return BAD_VALUE;
            }
            int previous = now.prices[weekday][dish];
            now.prices[weekday][dish] = price;
            return previous;
        });
    }

    int person() {
        return change(this::comesToWork);
    }

    private int comesToWork() {
        if (now.guests.size() == 14) {
            return TOO_MANY;
        }
        now.guests.add(new Guest());
        return now.guests.size() - 1;
    }

    int vouchers(int person, int many) {
        return change(() -> gets(person, many));
    }

    private int gets(int person, int many) {
        if (noPerson(person)) {
            return NO_SUCH;
        }
        if (many < 1 || many > 30) {
            return BAD_VALUE;
        }
        Guest guest = now.guests.get(person);
        guest.vouchers = Math.min(30, guest.vouchers + many);
        return guest.vouchers;
    }

    int order(int person, int ahead, int dish) {
        return change(() -> orders(person, ahead, dish));
    }

    private int orders(int person, int ahead, int dish) {
        int why = why(person, ahead, dish);
        if (why != 0) {
            return why < 0 ? why : NOT_POSSIBLE;
        }
        Guest guest = now.guests.get(person);
        int costs = costs(now.day + ahead, dish);
        guest.orders.put(now.day + ahead, new Order(dish, costs));
        guest.vouchers -= costs;
        return guest.vouchers;
    }

    int callOff(int person, int ahead) {
        return change(() -> {
            if (noPerson(person)) {
                return NO_SUCH;
            }
            if (ahead < 1 || ahead > 4) {
                return BAD_VALUE;
            }
            Order order = now.guests.get(person).orders.remove(now.day + ahead);
            return order == null ? NOT_POSSIBLE : gets(person, order.paid);
        });
    }

    int cook() {
        return change(this::cooks);
    }

    private int cooks() {
        if (now.cooked) {
            return NOT_POSSIBLE;
        }
        int sum = 0;
        for (int dish = 0; dish < 3; dish++) {
            now.fresh[dish] = wanted(dish);
            now.made[dish] += now.fresh[dish];
            sum += now.fresh[dish];
        }
        now.cooked = true;
        return sum;
    }

    private int wanted(int dish) {
        int orders = 0;
        int doubts = 0;
        for (Guest guest : now.guests) {
            Order order = guest.orders.get(now.day);
            if (order != null && order.dish == dish) {
                orders++;
                doubts += guest.doubt();
            }
        }
        int hundredths = 100 * orders - doubts;
        int expected = hundredths / 100 + (hundredths % 100 > 0 ? 1 : 0);
        int wanted = expected + now.settings[0];
        return wanted > now.kept[dish] ? wanted - now.kept[dish] : 0;
    }

    int come(int person) {
        return change(() -> comes(person));
    }

    private int comes(int person) {
        if (noPerson(person)) {
            return NO_SUCH;
        }
        Guest guest = now.guests.get(person);
        Order order = guest.orders.get(now.day);
        if (!now.cooked || order == null || guest.here) {
            return NOT_POSSIBLE;
        }
        guest.here = true;
        guest.came++;
        guest.strikes = 0;
        if (!eats(guest, order.dish)) {
            gets(person, order.paid);
            return 3;
        }
        return order.dish;
    }

    private boolean eats(Guest guest, int dish) {
        if (now.kept[dish] > 0) {
            now.kept[dish]--;
        } else if (now.fresh[dish] > 0) {
            now.fresh[dish]--;
        } else {
            return false;
        }
        now.eaten[dish]++;
        guest.plates++;
        return true;
    }

    private int awaited(int dish) {
        int many = 0;
        for (Guest guest : now.guests) {
            Order order = guest.orders.get(now.day);
            many += order != null && order.dish == dish && !guest.here ? 1 : 0;
        }
        return many;
    }

    int buy(int person, int dish) {
        return change(() -> buys(person, dish));
    }

    private int buys(int person, int dish) {
        if (noPerson(person) || noDish(dish)) {
            return NO_SUCH;
        }
        Guest guest = now.guests.get(person);
        int costs = costs(now.day, dish) + 1;
        boolean free = now.kept[dish] + now.fresh[dish] > awaited(dish);
        if (!now.cooked || guest.orders.containsKey(now.day) || guest.here || guest.vouchers < costs || !free) {
            return NOT_POSSIBLE;
        }
        eats(guest, dish);
        guest.here = true;
        guest.vouchers -= costs;
        return guest.vouchers;
    }

    int close() {
        return change(this::closes);
    }

    private int closes() {
        if (!now.cooked || now.day == 9999) {
            return NOT_POSSIBLE;
        }
        int away = 0;
        for (Guest guest : now.guests) {
            if (guest.orders.remove(now.day) != null && !guest.here) {
                guest.away++;
                guest.strikes++;
                away++;
            }
            if (guest.strikes >= now.settings[2]) {
                guest.bannedTo = Math.max(guest.bannedTo, now.day + now.settings[3]);
                guest.strikes = 0;
            }
            guest.here = false;
        }
        for (int dish = 0; dish < 3; dish++) {
            now.thrown[dish] += now.kept[dish] + Math.max(0, now.fresh[dish] - now.settings[1]);
            now.kept[dish] = Math.min(now.fresh[dish], now.settings[1]);
            now.fresh[dish] = 0;
        }
        now.day++;
        now.cooked = false;
        return away;
    }

    int of(int person, int what) {
        if (noPerson(person)) {
            return NO_SUCH;
        }
        if (what < 0 || what > 8) {
            return BAD_VALUE;
        }
        Guest guest = now.guests.get(person);
        Order today = guest.orders.get(now.day);
        int days = 0;
        for (int day : guest.orders.keySet()) {
            days |= 1 << day - now.day;
        }
        int[] all = {guest.vouchers, today == null ? NONE : today.dish, days, guest.strikes, guest.bannedTo + 1,
            guest.came, guest.away, guest.here ? 1 : 0, guest.plates};
        return all[what];
    }

    int ofDish(int dish, int what) {
        if (noDish(dish)) {
            return NO_SUCH;
        }
        if (what < 0 || what > 7) {
            return BAD_VALUE;
        }
        int[] all = {now.kept[dish], now.fresh[dish], awaited(dish), now.made[dish], now.eaten[dish], now.thrown[dish],
            costs(now.day, dish), now.cooked ? 0 : wanted(dish)};
        return all[what];
    }

    int ordered(int ahead, int dish) {
        if (noDish(dish)) {
            return NO_SUCH;
        }
        if (ahead < 0 || ahead > 4) {
            return BAD_VALUE;
        }
        int set = 0;
        for (int person = 0; person < now.guests.size(); person++) {
            Order order = now.guests.get(person).orders.get(now.day + ahead);
            set |= order != null && order.dish == dish ? 1 << person : 0;
        }
        return set;
    }

    int count(int what) {
        if (what < 0 || what > 15) {
            return BAD_VALUE;
        }
        int vouchers = 0;
        int away = 0;
        int banned = 0;
        for (int person = 0; person < now.guests.size(); person++) {
            Guest guest = now.guests.get(person);
            vouchers += guest.vouchers;
            away += guest.away;
            banned |= guest.bannedTo >= now.day ? 1 << person : 0;
        }
        int[] all = {now.day, now.guests.size(), now.cooked ? 1 : 0, sum(now.made), sum(now.eaten), sum(now.thrown),
            sum(now.kept) + sum(now.fresh), vouchers, banned, away, now.settings[0], now.settings[1], now.settings[2],
            now.settings[3], pad.length(), history.size()};
        return all[what];
    }

    private static int sum(int[] numbers) {
        return numbers[0] + numbers[1] + numbers[2];
    }

    int why(int person, int ahead, int dish) {
        if (noPerson(person) || noDish(dish)) {
            return NO_SUCH;
        }
        if (ahead < 0 || ahead > 4) {
            return BAD_VALUE;
        }
        Guest guest = now.guests.get(person);
        boolean[] reasons = {ahead == 0 && now.cooked, now.day + ahead <= guest.bannedTo,
            guest.orders.containsKey(now.day + ahead), guest.vouchers < costs(now.day + ahead, dish)};
        for (int reason = 0; reason < 4; reason++) {
            if (reasons[reason]) {
                return reason + 1;
            }
        }
        return 0;
    }

    int unsurest(int what) {
        if (what < 0 || what > 1) {
            return BAD_VALUE;
        }
        int best = NONE;
        long most = 0;
        for (int person = now.guests.size() - 1; person >= 0; person--) {
            Guest guest = now.guests.get(person);
            long weight = guest.doubt() * 100000L + guest.came + guest.away;
            if (guest.doubt() > 0 && weight >= most) {
                most = weight;
                best = person;
            }
        }
        return best == NONE || what == 0 ? best : now.guests.get(best).doubt();
    }

    int firstOrder(int person) {
        if (noPerson(person)) {
            return NO_SUCH;
        }
        for (int both = 0; both < 15; both++) {
            if (why(person, both / 3, both % 3) == 0) {
                return both;
            }
        }
        return NONE;
    }

    int wasted() {
        int best = NONE;
        int most = -1;
        for (int dish = 2; dish >= 0; dish--) {
            if (now.thrown[dish] > 0 && 100 * now.thrown[dish] / now.made[dish] >= most) {
                most = 100 * now.thrown[dish] / now.made[dish];
                best = dish;
            }
        }
        return best;
    }

    int put(long characters) {
        StringBuilder text = new StringBuilder();
        boolean over = false;
        for (int back = 0; back < 8; back++) {
            int code = (int) (characters >> 8 * back) & 255;
            if (code == 0) {
                over = true;
            } else if (over || code < 33 || code > 126) {
                return BAD_VALUE;
            } else {
                text.insert(0, (char) code);
            }
        }
        if (text.length() == 0) {
            return BAD_VALUE;
        }
        if (pad.length() + text.length() > 80) {
            return TOO_MANY;
        }
        pad += text;
        return pad.length();
    }

    int wipe() {
        int length = pad.length();
        pad = "";
        return length;
    }

    int fault() {
        if (TEXT.matcher(pad).matches()) {
            return NONE;
        }
        int length = 0;
        while (length < pad.length() && canStart(pad.substring(0, length + 1))) {
            length++;
        }
        return length;
    }

    /** Whether some text begins so. */
    private static boolean canStart(String start) {
        Matcher matcher = TEXT.matcher(start);
        return matcher.matches() || matcher.hitEnd();
    }

    int carryOut() {
        if (fault() != NONE) {
            return BAD_TEXT;
        }
        return change(() -> {
            int done = 0;
            for (String order : pad.split(";")) {
                if (carriesOut(order) < 0) {
                    break;
                }
                done++;
            }
            pad = "";
            return done;
        });
    }

    private int carriesOut(String order) {
        String[] parts = order.substring(1).split("(?<=[abc])|\\+|(?=[abc])");
        switch (order.charAt(0)) {
            case 'p':
                return comesToWork();
            case 'v':
                return gets(Integer.parseInt(parts[0]), Integer.parseInt(parts[1]));
            case 'o':
                int plus = order.indexOf('+');
                int ahead = plus < 0 ? 0 : Integer.parseInt(order.substring(plus + 1));
                return orders(Integer.parseInt(parts[0]), ahead, parts[1].charAt(0) - 'a');
            case 'c':
                int person = Integer.parseInt(parts[0]);
                return parts.length == 1 ? comes(person) : buys(person, parts[1].charAt(0) - 'a');
            case 'k':
                return cooks();
            default:
                return closes();
        }
    }

    int undo() {
        if (history.isEmpty()) {
            return NOT_POSSIBLE;
        }
        now = history.removeLast();
        return history.size();
    }

    int save(int slot) {
        if (slot < 0 || slot > 1) {
            return BAD_VALUE;
        }
        slots[slot] = now.copy();
        return now.guests.size();
    }

    int restore(int slot) {
        return change(() -> {
            if (slot < 0 || slot > 1) {
                return BAD_VALUE;
            }
            if (slots[slot] == null) {
                return NOT_POSSIBLE;
            }
            now = slots[slot].copy();
            return now.guests.size();
        });
    }
}
