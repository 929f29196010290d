/**
 * Staff canteen plates by vouchers, no shows and cook counts. ../shared/DOC.md says what each
 * method promises.
 */
public final class CanteenPlates {
    public static final int NO_SUCH = -1, BAD_VALUE = -2, BAD_TEXT = -3, TOO_MANY = -4, NOT_POSSIBLE = -5, NONE = -6;
    public static final int SPARE = 0, KEEP = 1, STRIKES = 2, BAN = 3;

    private static final int SETTINGS = 4;
    private static final int[] LOWEST_VALUE = {0, 0, 1, 1};
    private static final int[] HIGHEST_VALUE = {9, 20, 9, 20};

    private static final int MOST_PEOPLE = 14;
    private static final int DISHES = 3;
    private static final int WEEKDAYS = 5;
    private static final int DAYS_TO_ORDER = 5;
    private static final int HIGHEST_PRICE = 3;
    private static final int MOST_VOUCHERS = 30;
    private static final int FIRST_VOUCHERS = 5;
    private static final int LAST_DAY = 9999;
    private static final int NO_PLATE_LEFT = 3;

    private static final int WHY_COOKED = 1, WHY_BANNED = 2, WHY_ORDERED = 3, WHY_TOO_FEW = 4;

    private static final int COUNT_PAD = 14, COUNT_CHANGES = 15;
    private static final int LONGEST_PAD = 80;
    private static final int MOST_CHANGES = 6;
    private static final int SLOTS = 2;

    private final Canteen now;
    private final History history;
    private final Slots slots;
    private final Pad pad;
    private final OrderReader reader;

    public CanteenPlates() {
        now = new Canteen();
        history = new History();
        slots = new Slots();
        pad = new Pad();
        reader = new OrderReader(pad);
    }

    // ---- changes

    public int set(int setting, int value) {
        history.note(now);
        return history.keep(now.changeSetting(setting, value));
    }

    public int price(int weekday, int dish, int price) {
        history.note(now);
        return history.keep(now.changePrice(weekday, dish, price));
    }

    public int person() {
        history.note(now);
        return history.keep(now.addPerson());
    }

    public int vouchers(int person, int many) {
        history.note(now);
        return history.keep(now.giveVouchers(person, many));
    }

    public int order(int person, int ahead, int dish) {
        history.note(now);
        return history.keep(now.takeOrder(person, ahead, dish));
    }

    public int callOff(int person, int ahead) {
        history.note(now);
        return history.keep(now.cancelOrder(person, ahead));
    }

    public int cook() {
        history.note(now);
        return history.keep(now.cookToday());
    }

    public int come(int person) {
        history.note(now);
        return history.keep(now.serve(person));
    }

    public int buy(int person, int dish) {
        history.note(now);
        return history.keep(now.sell(person, dish));
    }

    public int close() {
        history.note(now);
        return history.keep(now.endDay());
    }

    // ---- what there is

    public int of(int person, int what) {
        return now.aboutPerson(person, what);
    }

    public int ofDish(int dish, int what) {
        return now.aboutDish(dish, what);
    }

    public int ordered(int ahead, int dish) {
        return now.peopleWithOrder(ahead, dish);
    }

    public int count(int what) {
        if (what == COUNT_PAD) {
            return pad.length();
        }
        if (what == COUNT_CHANGES) {
            return history.length();
        }
        return now.number(what);
    }

    // ---- what if; nothing changes

    public int why(int person, int ahead, int dish) {
        return now.reasonAgainst(person, ahead, dish);
    }

    public int unsurest(int what) {
        return now.greatestDoubt(what);
    }

    public int firstOrder(int person) {
        return now.firstPossible(person);
    }

    public int wasted() {
        return now.mostThrown();
    }

    // ---- texts

    public int put(long characters) {
        return pad.append(characters);
    }

    public int wipe() {
        return pad.clear();
    }

    public int fault() {
        return reader.firstFault();
    }

    public int carryOut() {
        if (reader.firstFault() != NONE) {
            return BAD_TEXT;
        }
        history.note(now);
        int done = carryOutAll();
        pad.clear();
        return history.keep(done);
    }

    // ---- undo, saving

    public int undo() {
        return history.takeBack(now);
    }

    public int save(int slot) {
        return slots.store(slot, now);
    }

    public int restore(int slot) {
        history.note(now);
        return history.keep(slots.fetch(slot, now));
    }

    /** Carries out the orders of a pad without fault, and tells how many. */
    private int carryOutAll() {
        reader.start();
        for (int done = 0; done < LONGEST_PAD; done++) {
            boolean there = done == 0 || reader.take(';');
            if (!there || !reader.readOrder() || carryOutOne() < 0) {
                return done;
            }
        }
        return LONGEST_PAD;
    }

    /** Carries out the order that was read last. */
    private int carryOutOne() {
        switch (reader.letter) {
            case 'p':
                return now.addPerson();
            case 'v':
                return now.giveVouchers(reader.person, reader.many);
            case 'o':
                return now.takeOrder(reader.person, reader.ahead, reader.dish);
            case 'c':
                return reader.dish == NONE ? now.serve(reader.person) : now.sell(reader.person, reader.dish);
            case 'k':
                return now.cookToday();
            case 'x':
                return now.endDay();
            default:
                return BAD_TEXT;
        }
    }

    /** All that undo, save and restore are about. */
    private static final class Canteen {
        private final int[] settings = {1, 4, 3, 5};
        private final Person[] staff = new Person[MOST_PEOPLE];
        private final Dish[] dishes = new Dish[DISHES];
        private int people;
        private int day;
        private boolean cooked;

        Canteen() {
            for (int person = 0; person < MOST_PEOPLE; person++) {
                staff[person] = new Person();
            }
            for (int dish = 0; dish < DISHES; dish++) {
                dishes[dish] = new Dish();
            }
        }

        void become(Canteen other) {
            System.arraycopy(other.settings, 0, settings, 0, SETTINGS);
            for (int dish = 0; dish < DISHES; dish++) {
                dishes[dish].become(other.dishes[dish]);
            }
            // Rows behind the last person may stay as they are: addPerson starts a row afresh.
            for (int person = 0; person < other.people; person++) {
                staff[person].become(other.staff[person]);
            }
            people = other.people;
            day = other.day;
            cooked = other.cooked;
        }

        boolean hasPerson(int person) {
            return person >= 0 && person < people;
        }

        boolean hasDish(int dish) {
            return dish >= 0 && dish < DISHES;
        }

        boolean isAhead(int ahead) {
            return ahead >= 0 && ahead < DAYS_TO_ORDER;
        }

        int priceOf(int dish, int ahead) {
            return dishes[dish].prices[(day + ahead) % WEEKDAYS];
        }

        int changeSetting(int setting, int value) {
            if (setting < 0 || setting >= SETTINGS) {
                return BAD_VALUE;
            }
            if (value < LOWEST_VALUE[setting] || value > HIGHEST_VALUE[setting]) {
                return BAD_VALUE;
            }
            int previous = settings[setting];
            settings[setting] = value;
            return previous;
        }

        int changePrice(int weekday, int dish, int price) {
            if (weekday < 0 || weekday >= WEEKDAYS || !hasDish(dish)) {
                return NO_SUCH;
            }
            if (price < 1 || price > HIGHEST_PRICE) {
                return BAD_VALUE;
            }
            int previous = dishes[dish].prices[weekday];
            dishes[dish].prices[weekday] = price;
            return previous;
        }

        int addPerson() {
            if (people >= MOST_PEOPLE) {
                return TOO_MANY;
            }
            staff[people].start();
            people++;
            return people - 1;
        }

        int giveVouchers(int person, int many) {
            if (!hasPerson(person)) {
                return NO_SUCH;
            }
            if (many < 1 || many > MOST_VOUCHERS) {
                return BAD_VALUE;
            }
            return staff[person].receive(many);
        }

        int takeOrder(int person, int ahead, int dish) {
            int reason = reasonAgainst(person, ahead, dish);
            if (reason < 0) {
                return reason;
            }
            if (reason > 0) {
                return NOT_POSSIBLE;
            }
            return staff[person].pay(ahead, dish, priceOf(dish, ahead));
        }

        int cancelOrder(int person, int ahead) {
            if (!hasPerson(person)) {
                return NO_SUCH;
            }
            if (ahead < 1 || !isAhead(ahead)) {
                return BAD_VALUE;
            }
            if (!staff[person].hasOrder(ahead)) {
                return NOT_POSSIBLE;
            }
            staff[person].dishes[ahead] = NONE;
            return staff[person].receive(staff[person].paid[ahead]);
        }

        int cookToday() {
            if (cooked) {
                return NOT_POSSIBLE;
            }
            int plates = 0;
            for (int dish = 0; dish < DISHES; dish++) {
                int fresh = platesToCook(dish);
                dishes[dish].fill(fresh);
                plates += fresh;
            }
            cooked = true;
            return plates;
        }

        int platesToCook(int dish) {
            int expected = 0;
            for (int person = 0; person < people; person++) {
                if (staff[person].dishes[0] == dish) {
                    expected += 100 - staff[person].doubt();
                }
            }
            int roundedUp = (expected + 99) / 100;
            return Math.max(0, roundedUp + settings[SPARE] - dishes[dish].kept);
        }

        int serve(int person) {
            if (!hasPerson(person)) {
                return NO_SUCH;
            }
            Person guest = staff[person];
            if (!cooked || !guest.hasOrder(0) || guest.here) {
                return NOT_POSSIBLE;
            }
            guest.comeWithOrder();
            int dish = guest.dishes[0];
            if (!hasDish(dish) || dishes[dish].left() == 0) {
                guest.receive(guest.paid[0]);
                return NO_PLATE_LEFT;
            }
            dishes[dish].give();
            guest.plates++;
            return dish;
        }

        int sell(int person, int dish) {
            if (!hasPerson(person) || !hasDish(dish)) {
                return NO_SUCH;
            }
            Person guest = staff[person];
            if (!cooked || guest.hasOrder(0) || guest.here) {
                return NOT_POSSIBLE;
            }
            int price = priceOf(dish, 0) + 1;
            if (guest.vouchers < price || dishes[dish].left() <= awaited(dish)) {
                return NOT_POSSIBLE;
            }
            dishes[dish].give();
            guest.plates++;
            guest.here = true;
            guest.vouchers -= price;
            return guest.vouchers;
        }

        /** How many orders for today there are for the dish whose people have not come. */
        int awaited(int dish) {
            int many = 0;
            for (int person = 0; person < people; person++) {
                if (staff[person].dishes[0] == dish && !staff[person].here) {
                    many++;
                }
            }
            return many;
        }

        int endDay() {
            if (!cooked || day >= LAST_DAY) {
                return NOT_POSSIBLE;
            }
            int away = 0;
            for (int person = 0; person < people; person++) {
                if (staff[person].isMissing()) {
                    staff[person].stayAway();
                    away++;
                }
                staff[person].judge(settings[STRIKES], day + 1 + settings[BAN]);
                staff[person].startDay();
            }
            for (int dish = 0; dish < DISHES; dish++) {
                dishes[dish].clearUp(settings[KEEP]);
            }
            day++;
            cooked = false;
            return away;
        }

        int aboutPerson(int person, int what) {
            if (!hasPerson(person)) {
                return NO_SUCH;
            }
            return staff[person].number(what);
        }

        int aboutDish(int dish, int what) {
            if (!hasDish(dish)) {
                return NO_SUCH;
            }
            switch (what) {
                case 0:
                    return dishes[dish].kept;
                case 1:
                    return dishes[dish].fresh;
                case 2:
                    return awaited(dish);
                case 3:
                    return dishes[dish].cooked;
                case 4:
                    return dishes[dish].eaten;
                case 5:
                    return dishes[dish].thrown;
                case 6:
                    return priceOf(dish, 0);
                case 7:
                    return cooked ? 0 : platesToCook(dish);
                default:
                    return BAD_VALUE;
            }
        }

        int peopleWithOrder(int ahead, int dish) {
            if (!hasDish(dish)) {
                return NO_SUCH;
            }
            if (!isAhead(ahead)) {
                return BAD_VALUE;
            }
            int set = 0;
            for (int person = 0; person < people; person++) {
                if (staff[person].dishes[ahead] == dish) {
                    set |= 1 << person;
                }
            }
            return set;
        }

        /** What count() tells, but for the pad and the history. */
        int number(int what) {
            switch (what) {
                case 0:
                    return day;
                case 1:
                    return people;
                case 2:
                    return cooked ? 1 : 0;
                case 3:
                case 4:
                case 5:
                case 6:
                    return sumOfDishes(what);
                case 7:
                case 9:
                    return sumOfPeople(what);
                case 8:
                    return bannedToday();
                case 10:
                case 11:
                case 12:
                case 13:
                    return settings[what - 10];
                default:
                    return BAD_VALUE;
            }
        }

        private int sumOfDishes(int what) {
            int sum = 0;
            for (int dish = 0; dish < DISHES; dish++) {
                sum += what == 6 ? dishes[dish].left() : aboutDish(dish, what);
            }
            return sum;
        }

        private int sumOfPeople(int what) {
            int sum = 0;
            for (int person = 0; person < people; person++) {
                sum += what == 7 ? staff[person].vouchers : staff[person].timesAway;
            }
            return sum;
        }

        private int bannedToday() {
            int set = 0;
            for (int person = 0; person < people; person++) {
                if (day < staff[person].freeFrom) {
                    set |= 1 << person;
                }
            }
            return set;
        }

        int reasonAgainst(int person, int ahead, int dish) {
            if (!hasPerson(person) || !hasDish(dish)) {
                return NO_SUCH;
            }
            if (!isAhead(ahead)) {
                return BAD_VALUE;
            }
            if (ahead == 0 && cooked) {
                return WHY_COOKED;
            }
            if (day + ahead < staff[person].freeFrom) {
                return WHY_BANNED;
            }
            if (staff[person].hasOrder(ahead)) {
                return WHY_ORDERED;
            }
            return staff[person].vouchers < priceOf(dish, ahead) ? WHY_TOO_FEW : 0;
        }

        int greatestDoubt(int what) {
            if (what != 0 && what != 1) {
                return BAD_VALUE;
            }
            int found = NONE;
            for (int person = 0; person < people; person++) {
                if (staff[person].doubt() > 0 && (found < 0 || staff[person].isLessSureThan(staff[found]))) {
                    found = person;
                }
            }
            if (found < 0) {
                return NONE;
            }
            return what == 0 ? found : staff[found].doubt();
        }

        int firstPossible(int person) {
            if (!hasPerson(person)) {
                return NO_SUCH;
            }
            for (int ahead = 0; ahead < DAYS_TO_ORDER; ahead++) {
                for (int dish = 0; dish < DISHES; dish++) {
                    if (reasonAgainst(person, ahead, dish) == 0) {
                        return DISHES * ahead + dish;
                    }
                }
            }
            return NONE;
        }

        int mostThrown() {
            int found = NONE;
            for (int dish = 0; dish < DISHES; dish++) {
                if (dishes[dish].thrown > 0 && (found < 0 || dishes[dish].waste() > dishes[found].waste())) {
                    found = dish;
                }
            }
            return found;
        }
    }

    private static final class Person {
        /** By days ahead, today first: the dish that is ordered, or NONE. */
        private final int[] dishes = new int[DAYS_TO_ORDER];
        /** By days ahead: what was paid, as prices may have changed since. */
        private final int[] paid = new int[DAYS_TO_ORDER];
        private int vouchers;
        private int strikes;
        private int freeFrom;
        private int timesCome;
        private int timesAway;
        private int plates;
        private boolean here;

        void start() {
            for (int ahead = 0; ahead < DAYS_TO_ORDER; ahead++) {
                dishes[ahead] = NONE;
                paid[ahead] = 0;
            }
            vouchers = FIRST_VOUCHERS;
            strikes = 0;
            freeFrom = 0;
            timesCome = 0;
            timesAway = 0;
            plates = 0;
            here = false;
        }

        void become(Person other) {
            System.arraycopy(other.dishes, 0, dishes, 0, DAYS_TO_ORDER);
            System.arraycopy(other.paid, 0, paid, 0, DAYS_TO_ORDER);
            vouchers = other.vouchers;
            strikes = other.strikes;
            freeFrom = other.freeFrom;
            timesCome = other.timesCome;
            timesAway = other.timesAway;
            plates = other.plates;
            here = other.here;
        }

        boolean hasOrder(int ahead) {
            return dishes[ahead] != NONE;
        }

        boolean isMissing() {
            return hasOrder(0) && !here;
        }

        int receive(int many) {
            vouchers = Math.min(MOST_VOUCHERS, vouchers + many);
            return vouchers;
        }

        int pay(int ahead, int dish, int price) {
            dishes[ahead] = dish;
            paid[ahead] = price;
            vouchers -= price;
            return vouchers;
        }

        void comeWithOrder() {
            here = true;
            timesCome++;
            strikes = 0;
        }

        void stayAway() {
            timesAway++;
            strikes++;
        }

        void judge(int mostStrikes, int firstDayAfter) {
            if (strikes >= mostStrikes) {
                // A shorter ban does not lift a longer one that still runs.
                freeFrom = Math.max(freeFrom, firstDayAfter);
                strikes = 0;
            }
        }

        void startDay() {
            for (int ahead = 1; ahead < DAYS_TO_ORDER; ahead++) {
                dishes[ahead - 1] = dishes[ahead];
                paid[ahead - 1] = paid[ahead];
            }
            dishes[DAYS_TO_ORDER - 1] = NONE;
            here = false;
        }

        int timesOrdered() {
            return timesCome + timesAway;
        }

        int doubt() {
            int times = timesOrdered();
            return times == 0 ? 0 : 100 * timesAway / times;
        }

        boolean isLessSureThan(Person other) {
            if (doubt() != other.doubt()) {
                return doubt() > other.doubt();
            }
            return timesOrdered() > other.timesOrdered();
        }

        int daysWithOrder() {
            int set = 0;
            for (int ahead = 0; ahead < DAYS_TO_ORDER; ahead++) {
                if (hasOrder(ahead)) {
                    set |= 1 << ahead;
                }
            }
            return set;
        }

        int number(int what) {
            switch (what) {
                case 0:
                    return vouchers;
                case 1:
                    return dishes[0];
                case 2:
                    return daysWithOrder();
                case 3:
                    return strikes;
                case 4:
                    return freeFrom;
                case 5:
                    return timesCome;
                case 6:
                    return timesAway;
                case 7:
                    return here ? 1 : 0;
                case 8:
                    return plates;
                default:
                    return BAD_VALUE;
            }
        }
    }

    private static final class Dish {
        private final int[] prices = {1, 1, 1, 1, 1};
        /** Plates of the day before that are left, and today's own. */
        private int kept;
        private int fresh;
        /** These three are sums over all days. */
        private int cooked;
        private int eaten;
        private int thrown;

        void become(Dish other) {
            System.arraycopy(other.prices, 0, prices, 0, WEEKDAYS);
            kept = other.kept;
            fresh = other.fresh;
            cooked = other.cooked;
            eaten = other.eaten;
            thrown = other.thrown;
        }

        int left() {
            return kept + fresh;
        }

        void fill(int plates) {
            fresh = plates;
            cooked += plates;
        }

        void give() {
            if (kept > 0) {
                kept--;
            } else {
                fresh--;
            }
            eaten++;
        }

        void clearUp(int mostKept) {
            int keptNow = Math.min(fresh, mostKept);
            thrown += kept + fresh - keptNow;
            kept = keptNow;
            fresh = 0;
        }

        int waste() {
            return cooked == 0 ? 0 : 100 * thrown / cooked;
        }
    }

    /** The states before the latest changes. */
    private static final class History {
        /** A ring with one state more than is kept, so that a change that fails spoils none. */
        private final Canteen[] states = new Canteen[MOST_CHANGES + 1];
        private int next;
        private int kept;

        History() {
            for (int state = 0; state <= MOST_CHANGES; state++) {
                states[state] = new Canteen();
            }
        }

        int length() {
            return kept;
        }

        /** Called ahead of a change; keep() then decides whether the state is recorded. */
        void note(Canteen now) {
            states[next].become(now);
        }

        int keep(int answer) {
            if (answer >= 0) {
                next = next == MOST_CHANGES ? 0 : next + 1;
                kept = Math.min(MOST_CHANGES, kept + 1);
            }
            return answer;
        }

        int takeBack(Canteen now) {
            if (kept == 0) {
                return NOT_POSSIBLE;
            }
            next = next == 0 ? MOST_CHANGES : next - 1;
            kept--;
            now.become(states[next]);
            return kept;
        }
    }

    private static final class Slots {
        private final Canteen[] saved = new Canteen[SLOTS];
        private final boolean[] used = new boolean[SLOTS];

        Slots() {
            for (int slot = 0; slot < SLOTS; slot++) {
                saved[slot] = new Canteen();
            }
        }

        int store(int slot, Canteen now) {
            if (slot < 0 || slot >= SLOTS) {
                return BAD_VALUE;
            }
            saved[slot].become(now);
            used[slot] = true;
            return now.people;
        }

        int fetch(int slot, Canteen now) {
            if (slot < 0 || slot >= SLOTS) {
                return BAD_VALUE;
            }
            if (!used[slot]) {
                return NOT_POSSIBLE;
            }
            now.become(saved[slot]);
            return now.people;
        }
    }

    private static final class Pad {
        private static final int MOST_AT_ONCE = 8, FIRST_CODE = 33, LAST_CODE = 126;

        private final char[] text = new char[LONGEST_PAD];
        private int length;

        int length() {
            return length;
        }

        /** The character at a place, or 0, which no character of a pad is. */
        int at(int place) {
            return place >= 0 && place < length ? text[place] : 0;
        }

        int append(long characters) {
            int many = goodCharacters(characters);
            if (many == 0) {
                return BAD_VALUE;
            }
            if (length + many > LONGEST_PAD) {
                return TOO_MANY;
            }
            length += many;
            for (int back = 0; back < many; back++) {
                text[length - 1 - back] = (char) (characters >>> 8 * back & 255);
            }
            return length;
        }

        /** How many characters there are, 0 if one of them cannot be. */
        private static int goodCharacters(long characters) {
            long rest = characters;
            int many = 0;
            while (rest != 0 && many < MOST_AT_ONCE) {
                long code = rest & 255;
                if (code < FIRST_CODE || code > LAST_CODE) {
                    return 0;
                }
                rest = rest >>> 8;
                many++;
            }
            return many;
        }

        int clear() {
            int previous = length;
            length = 0;
            return previous;
        }
    }

    /** Reads the orders of the pad from left to right; where it fails, the fault is at its place. */
    private static final class OrderReader {
        private final Pad pad;
        private int place;
        private int letter;
        private int person;
        private int many;
        private int dish;
        private int ahead;

        OrderReader(Pad pad) {
            this.pad = pad;
        }

        void start() {
            place = 0;
        }

        int firstFault() {
            start();
            for (int orders = 0; orders < LONGEST_PAD; orders++) {
                if (!readOrder()) {
                    return place;
                }
                if (place >= pad.length()) {
                    return NONE;
                }
                if (!take(';')) {
                    return place;
                }
            }
            return place;
        }

        boolean take(char sign) {
            if (pad.at(place) != sign) {
                return false;
            }
            place++;
            return true;
        }

        boolean readOrder() {
            letter = pad.at(place);
            dish = NONE;
            ahead = 0;
            switch (letter) {
                case 'p':
                case 'k':
                case 'x':
                    place++;
                    return true;
                case 'v':
                    place++;
                    return readPerson() && take('+') && readMany();
                case 'o':
                    place++;
                    return readPerson() && readDish() && readAhead();
                case 'c':
                    place++;
                    return readPerson() && (isOrderOver() || readDish());
                default:
                    return false;
            }
        }

        private boolean isOrderOver() {
            return place >= pad.length() || pad.at(place) == ';';
        }

        private boolean readPerson() {
            person = readNumber();
            return person >= 0;
        }

        private boolean readMany() {
            many = readNumber();
            return many >= 0;
        }

        private boolean readDish() {
            int sign = pad.at(place);
            if (sign < 'a' || sign > 'c') {
                return false;
            }
            dish = sign - 'a';
            place++;
            return true;
        }

        private boolean readAhead() {
            if (!take('+')) {
                return true;
            }
            ahead = readDigit();
            return ahead >= 0;
        }

        /** A number of one digit or, without a leading zero, two; NONE if there is none. */
        private int readNumber() {
            int first = readDigit();
            if (first <= 0) {
                return first;
            }
            int second = readDigit();
            return second < 0 ? first : 10 * first + second;
        }

        private int readDigit() {
            int sign = pad.at(place);
            if (sign < '0' || sign > '9') {
                return NONE;
            }
            place++;
            return sign - '0';
        }
    }
}
