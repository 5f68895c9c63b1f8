public final class TakenNumbers {
    public static final int BAD = -1, NO = -2, FULL = -3, NONE = -4;

    private static final int MOST_LETTERS = 200;
    private static final int MOST_NUMBERS = 24;
    private static final int MOST_PERSONS = 6;
    private static final int MOST_AMOUNT = 99;
    private static final int MOST_WORDS = 10;
    private static final int MOST_ROWS = 6;
    private static final int MOST_UNDONE = 8;
    private static final int MOST_KEPT = 2;
    private static final int MOST_SEED = 9999;
    private static final int MOST_DAYS = 30;

    /** 1 to 24 together: no saying comes to more, or to less than this below nothing. */
    private static final int MOST_SUM = 300;

    private static final int WHOLE = 0, SUMS = 1, SIGNS = 2, HALVES = 3;
    private static final int AND = 1, LESS = 2, HALF = 3;
    private static final int BIRTH = 7;

    private static final String FIRST_TEXT = "n9;p4;p4;p7;p12;c7,3;h5,0;";

    private final Text text = new Text();
    private Port port = new Port();
    private Port draft = new Port();
    private final Day day = new Day();
    private final DayStack past = new DayStack(MOST_UNDONE);
    private final DayStack kept = new DayStack(MOST_KEPT);
    private final Words theWords = new Words();
    private final Book theBook = new Book();
    private final WaySums waySums = new WaySums();
    private final Sayings sayings = new Sayings();
    private final Scene scene = new Scene();
    private final Crowd crowd = new Crowd(sayings);

    public TakenNumbers() {
        for (int k = 0; k < FIRST_TEXT.length(); k++) {
            text.append(FIRST_TEXT.charAt(k));
        }
        text.readInto(port);
        text.length = 0;
        sayings.forget(port);
    }

    // ---- ports

    public int write(int letter) {
        if (letter < 32 || letter > 126) {
            return BAD;
        }
        return text.append((char) letter) ? text.length : FULL;
    }

    public int wipe() {
        int length = text.length;
        text.length = 0;
        return length;
    }

    public int fault() {
        return text.readInto(draft);
    }

    public int lay() {
        if (text.readInto(draft) != NONE || draft.persons == 0) {
            return NO;
        }
        Port old = port;
        port = draft;
        draft = old;
        day.begin(false);
        past.size = 0;
        kept.size = 0;
        theWords.size = 0;
        theBook.size = 0;
        sayings.forget(port);
        return port.numbers;
    }

    public int number(int x, int what) {
        if (!port.isNumber(x)) {
            return BAD;
        }
        switch (what) {
            case 0: return port.cost[x];
            case 1: return holderOf(x, port.owned);
            case 2: return holderOf(x, day.takenBy);
            case 3: return holderOf(x, day.lentTo);
            default: return BAD;
        }
    }

    public int person(int i, int what) {
        if (!port.isPerson(i)) {
            return BAD;
        }
        switch (what) {
            case 0: return port.amount[i];
            case 1: return day.said >> i & 1;
            case 2: return sceneNow().mayUse(i, day.taken());
            default: return BAD;
        }
    }

    public int law(int what) {
        switch (what) {
            case 0: return port.kind;
            case 1: return port.lessCost;
            case 2: return port.halfCost;
            default: return BAD;
        }
    }

    // ---- words

    public int tell(int x, int use) {
        if (!port.isNumber(x) || use < AND || use > HALF) {
            return BAD;
        }
        if (hasBit(theWords.set(), x - 1) || !canStand(x, use)) {
            return NO;
        }
        return theWords.append(x, use) ? theWords.size : FULL;
    }

    public int hush() {
        int size = theWords.size;
        theWords.size = 0;
        return size;
    }

    public int words(int what) {
        switch (what) {
            case 0: return theWords.sum() + 1000;
            case 1: return theWords.price(port);
            case 2: return theWords.areSaying(port.kind) ? 1 : 0;
            default: return BAD;
        }
    }

    // ---- days

    public int say(int i) {
        if (!port.isPerson(i)) {
            return BAD;
        }
        int set = theWords.set();
        boolean fits = theWords.areSaying(port.kind) && theWords.sum() == port.amount[i];
        boolean may = (set & ~sceneNow().mayUse(i, day.taken())) == 0;
        if (!fits || !may || hasBit(day.said, i)) {
            return NO;
        }
        past.push(day);
        day.take(i, set);
        return theWords.price(port);
    }

    public int speak(int i) {
        if (!port.isPerson(i)) {
            return BAD;
        }
        if (hasBit(day.said, i)) {
            return NO;
        }
        int used = usedNow(i, port.amount[i]);
        if (used == 0) {
            return NONE;
        }
        past.push(day);
        day.take(i, used);
        return Integer.bitCount(used);
    }

    public int lend(int x, int i) {
        if (!port.isNumber(x) || !port.isPerson(i)) {
            return BAD;
        }
        int owner = holderOf(x, port.owned);
        if (owner == NONE || owner == i || hasBit(day.taken() | day.lent(), x - 1)) {
            return NO;
        }
        past.push(day);
        day.lentTo[i] |= 1 << x - 1;
        return Integer.bitCount(day.lent());
    }

    public int born() {
        int next = day.births + 1;
        if (day.feast || !port.isNumber(next) || hasBit(day.taken(), next - 1)) {
            return NO;
        }
        past.push(day);
        day.births = next;
        day.takenBy[BIRTH] |= 1 << next - 1;
        return next;
    }

    public int dusk(boolean feast) {
        int taken = Integer.bitCount(day.taken());
        past.push(day);
        day.begin(feast);
        return taken;
    }

    public int undo() {
        return past.pop(day) ? past.size : NO;
    }

    public int best(int i, int amount, int what) {
        if (!port.isPerson(i) || amount < 1 || amount > MOST_AMOUNT || what < 0 || what > 4) {
            return BAD;
        }
        int used = usedNow(i, amount);
        if (used == 0) {
            return NONE;
        }
        switch (what) {
            case 0: return Integer.bitCount(used);
            case 1: return sayings.price();
            default: return sayings.inUse(what - 1);
        }
    }

    // ---- who is stuck

    public int stuck() {
        return crowd.stuckIn(sceneNow());
    }

    public int freed(int i) {
        if (!port.isPerson(i)) {
            return BAD;
        }
        int amount = port.amount[i];
        if (hasBit(day.said, i) || usedNow(i, amount) != 0) {
            return NONE;
        }
        Scene now = sceneNow();
        for (int x = 1; x <= port.numbers; x++) {
            int without = now.taken & ~(1 << x - 1);
            if (without != now.taken && sayings.find(now.mayUse(i, without), amount, port.kind) != 0) {
                return x;
            }
        }
        return NONE;
    }

    public int order(int k) {
        if (k < -1 || k >= MOST_PERSONS) {
            return BAD;
        }
        Scene now = sceneNow();
        crowd.findOrder(now);
        if (k < 0) {
            return crowd.mostCan;
        }
        return k < Integer.bitCount(now.who) ? crowd.bestRow[k] : NONE;
    }

    public int deny(int n, int what) {
        if (n < 1 || n > 2 || what < 0 || what > 2) {
            return BAD;
        }
        Scene now = sceneNow();
        if (!(n == 1 ? crowd.denyOne(now) : crowd.denyTwo(now))) {
            return NONE;
        }
        switch (what) {
            case 0: return crowd.mostStuck;
            case 1: return crowd.lower;
            default: return crowd.higher;
        }
    }

    public int guard() {
        Scene now = sceneNow();
        int nobodys = now.nobodys;
        int fewest = MOST_PERSONS + 1;
        int guarded = NONE;
        for (int x = 1; x <= port.numbers && fewest > 0; x++) {
            if (!hasBit(now.taken, x - 1)) {
                now.nobodys = nobodys | 1 << x - 1;
                int many = Integer.bitCount(crowd.stuckIn(now));
                if (many < fewest) {
                    fewest = many;
                    guarded = x;
                }
            }
        }
        return guarded;
    }

    public int value(int x) {
        if (!port.isNumber(x)) {
            return BAD;
        }
        if (hasBit(day.taken(), x - 1)) {
            return NO;
        }
        Scene now = sceneNow();
        int hurt = 0;
        for (int i = 0; i < port.persons; i++) {
            int may = now.mayUse(i, now.taken);
            int without = may & ~(1 << x - 1);
            if (sayings.find(may, port.amount[i], port.kind) != 0
                    && sayings.find(without, port.amount[i], port.kind) == 0) {
                hurt++;
            }
        }
        return hurt;
    }

    public int changed() {
        Scene now = sceneNow();
        int fewest = MOST_PERSONS + 1;
        int best = WHOLE;
        for (int kind = WHOLE; kind <= HALVES; kind++) {
            now.kind = kind;
            int many = Integer.bitCount(crowd.stuckIn(now));
            if (many < fewest) {
                fewest = many;
                best = kind;
            }
        }
        return best;
    }

    // ---- ways, books

    public int ways(int set, int amount, int k) {
        if (!port.isSet(set) || amount < 0 || amount > MOST_AMOUNT || k < WHOLE || k > HALVES) {
            return BAD;
        }
        waySums.reckon(set, k);
        return waySums.comingTo(amount);
    }

    public int lowest(int i) {
        if (!port.isPerson(i)) {
            return BAD;
        }
        for (int amount = 1; amount <= MOST_AMOUNT; amount++) {
            if (usedNow(i, amount) == 0) {
                return amount;
            }
        }
        return NONE;
    }

    public int enter(int set) {
        if (!port.isSet(set)) {
            return BAD;
        }
        return theBook.append(set) ? theBook.size : FULL;
    }

    public int close() {
        int size = theBook.size;
        theBook.size = 0;
        return size;
    }

    public int book(int row) {
        if (row < -1 || row >= theBook.size) {
            return BAD;
        }
        theBook.read(port, waySums);
        return row < 0 ? theBook.readings : theBook.surePerson(row);
    }

    public int twice() {
        int twice = theBook.inTwoRows();
        return twice == 0 ? NONE : firstBit(twice) + 1;
    }

    public int corner(int i, int what) {
        if (!port.isPerson(i) || what < 0 || what > 1) {
            return BAD;
        }
        if (hasBit(day.said, i)) {
            return NO;
        }
        if (!crowd.cornerBy(sceneNow(), i)) {
            return NONE;
        }
        return what == 0 ? crowd.cornerAmount : crowd.mostStuck;
    }

    public int year(int z, int n, int what) {
        if (z < 0 || z > MOST_SEED || n < 1 || n > MOST_DAYS || what < 0 || what > 1) {
            return BAD;
        }
        int times = 0;
        int days = 0;
        for (int k = 0; k < n; k++) {
            scene.setDrawn(port, z, k);
            int stuck = crowd.stuckIn(scene);
            times += Integer.bitCount(stuck);
            days += stuck == 0 ? 1 : 0;
        }
        return what == 0 ? times : days;
    }

    public int keep() {
        if (kept.size >= MOST_KEPT) {
            return FULL;
        }
        kept.push(day);
        return kept.size;
    }

    public int back() {
        if (!kept.pop(day)) {
            return NO;
        }
        past.size = 0;
        return kept.size;
    }

    public int count(int what) {
        switch (what) {
            case 0: return port.numbers;
            case 1: return port.persons;
            case 2: return Integer.bitCount(day.taken());
            case 3: return Integer.bitCount(day.said);
            case 4: return day.births;
            case 5: return day.feast ? 1 : 0;
            case 6: return theWords.size;
            case 7: return theBook.size;
            case 8: return past.size;
            case 9: return kept.size;
            case 10: return text.length;
            default: return BAD;
        }
    }

    private Scene sceneNow() {
        scene.setNow(port, day);
        return scene;
    }

    private int usedNow(int i, int amount) {
        return sayings.find(sceneNow().mayUse(i, day.taken()), amount, port.kind);
    }

    private static boolean hasBit(int bits, int k) {
        return (bits >> k & 1) != 0;
    }

    private static int firstBit(int bits) {
        int k = 0;
        while (k < MOST_NUMBERS && !hasBit(bits, k)) {
            k++;
        }
        return k;
    }

    /** Which of several sets of numbers holds a number; none holds one that another does. */
    private static int holderOf(int x, int[] sets) {
        for (int i = 0; i < sets.length; i++) {
            if (hasBit(sets[i], x - 1)) {
                return i;
            }
        }
        return NONE;
    }

    private static int countsAs(int x, int use) {
        return use == AND ? x : use == LESS ? -x : x / 2;
    }

    private static boolean canStand(int x, int use) {
        return use != HALF || x % 2 == 0;
    }

    /** A law allows the uses from AND up to this one. */
    private static int lastUse(int kind) {
        return kind == HALVES ? HALF : kind == SIGNS ? LESS : AND;
    }

    private static int together(int[] sets) {
        int all = 0;
        for (int set : sets) {
            all |= set;
        }
        return all;
    }

    /** What a text tells; nothing of it changes until another text is laid. */
    private static final class Port {
        int numbers;
        int persons;
        int kind;
        int lessCost;
        int halfCost;
        final int[] cost = new int[MOST_NUMBERS + 1];
        final int[] owned = new int[MOST_PERSONS];
        final int[] amount = new int[MOST_PERSONS];

        void clear() {
            numbers = 12;
            persons = 0;
            setLaw(SUMS, 1, 2);
            for (int x = 0; x <= MOST_NUMBERS; x++) {
                cost[x] = 1;
            }
            for (int i = 0; i < MOST_PERSONS; i++) {
                owned[i] = 0;
                amount[i] = 0;
            }
        }

        boolean isNumber(int x) {
            return x >= 1 && x <= numbers;
        }

        boolean isPerson(int i) {
            return i >= 0 && i < persons;
        }

        boolean isSet(int set) {
            return set != 0 && (set & ~all()) == 0;
        }

        int all() {
            return (1 << numbers) - 1;
        }

        int price(int x, int use) {
            if (!isNumber(x)) {
                return 0;
            }
            return cost[x] + (use == LESS ? lessCost : use == HALF ? halfCost : 0);
        }

        boolean setNumbers(int n) {
            if (n < 1 || n > MOST_NUMBERS) {
                return false;
            }
            numbers = n;
            return true;
        }

        boolean setCost(int x, int c) {
            if (!isNumber(x) || c > 9) {
                return false;
            }
            cost[x] = c;
            return true;
        }

        boolean addPerson(int a) {
            if (persons >= MOST_PERSONS || a < 1 || a > MOST_AMOUNT) {
                return false;
            }
            amount[persons] = a;
            persons++;
            return true;
        }

        boolean setOwner(int x, int p) {
            if (!isNumber(x) || !isPerson(p)) {
                return false;
            }
            int bit = 1 << x - 1;
            for (int i = 0; i < MOST_PERSONS; i++) {
                owned[i] &= ~bit;
            }
            owned[p] |= bit;
            return true;
        }

        boolean setLaw(int k, int l, int h) {
            if (k > HALVES || l > 9 || h > 9) {
                return false;
            }
            kind = k;
            lessCost = l;
            halfCost = h;
            return true;
        }
    }

    /** The text, and the reading of it. */
    private static final class Text {
        int length;
        private final char[] letters = new char[MOST_LETTERS];
        private final int[] told = new int[3];
        private int at;
        private boolean onlyN;

        boolean append(char letter) {
            if (length >= MOST_LETTERS) {
                return false;
            }
            letters[length] = letter;
            length++;
            return true;
        }

        /** The place of the first fault, or NONE; with a fault the port is of no use. */
        int readInto(Port port) {
            port.clear();
            at = 0;
            onlyN = true;
            for (int items = 0; items < MOST_LETTERS && at < length; items++) {
                int start = at;
                char letter = letters[start];
                if (!readItem(numbersBehind(letter)) || !accept(letter, port)) {
                    return start;
                }
                onlyN = onlyN && letter == 'n';
            }
            return NONE;
        }

        private static int numbersBehind(char letter) {
            switch (letter) {
                case 'n': return 1;
                case 'p': return 1;
                case 'c': return 2;
                case 'h': return 2;
                case 'k': return 3;
                default: return 0;
            }
        }

        private boolean readItem(int numbers) {
            at++;
            for (int k = 0; k < numbers && k < told.length; k++) {
                if (!readNumber(k) || at >= length || letters[at] != (k < numbers - 1 ? ',' : ';')) {
                    return false;
                }
                at++;
            }
            return numbers > 0;
        }

        private boolean readNumber(int k) {
            int figures = 0;
            int value = 0;
            while (figures < 2 && at < length && letters[at] >= '0' && letters[at] <= '9') {
                value = value * 10 + (letters[at] - '0');
                figures++;
                at++;
            }
            told[k] = value;
            return figures > 0;
        }

        private boolean accept(char letter, Port port) {
            switch (letter) {
                case 'n': return onlyN && port.setNumbers(told[0]);
                case 'p': return port.addPerson(told[0]);
                case 'c': return port.setCost(told[0], told[1]);
                case 'h': return port.setOwner(told[0], told[1]);
                case 'k': return port.setLaw(told[0], told[1], told[2]);
                default: return false;
            }
        }
    }

    /** What has happened since the last dusk. */
    private static final class Day {
        final int[] takenBy = new int[BIRTH + 1];
        final int[] lentTo = new int[MOST_PERSONS];
        int said;
        int births;
        boolean feast;

        void begin(boolean asFeast) {
            for (int i = 0; i < takenBy.length; i++) {
                takenBy[i] = 0;
            }
            for (int i = 0; i < lentTo.length; i++) {
                lentTo[i] = 0;
            }
            said = 0;
            births = 0;
            feast = asFeast;
        }

        void copy(Day other) {
            System.arraycopy(other.takenBy, 0, takenBy, 0, BIRTH + 1);
            System.arraycopy(other.lentTo, 0, lentTo, 0, MOST_PERSONS);
            said = other.said;
            births = other.births;
            feast = other.feast;
        }

        void take(int i, int set) {
            if (i >= 0 && i < MOST_PERSONS) {
                takenBy[i] |= set;
                said |= 1 << i;
            }
        }

        int taken() {
            return together(takenBy);
        }

        int lent() {
            return together(lentTo);
        }
    }

    /** Copies of days, the latest on top; where there is no room the oldest one goes. */
    private static final class DayStack {
        int size;
        private final Day[] days;

        DayStack(int room) {
            days = new Day[Math.max(1, room)];
            for (int k = 0; k < days.length; k++) {
                days[k] = new Day();
            }
        }

        void push(Day day) {
            if (size >= days.length) {
                dropOldest();
            }
            days[size].copy(day);
            size++;
        }

        boolean pop(Day into) {
            if (size <= 0) {
                return false;
            }
            size--;
            into.copy(days[size]);
            return true;
        }

        private void dropOldest() {
            Day oldest = days[0];
            for (int k = 1; k < days.length; k++) {
                days[k - 1] = days[k];
            }
            days[days.length - 1] = oldest;
            size = days.length - 1;
        }
    }

    private static final class Words {
        int size;
        private final int[] numbers = new int[MOST_WORDS];
        private final int[] uses = new int[MOST_WORDS];

        boolean append(int x, int use) {
            if (size >= MOST_WORDS) {
                return false;
            }
            numbers[size] = x;
            uses[size] = use;
            size++;
            return true;
        }

        int set() {
            int set = 0;
            for (int k = 0; k < size; k++) {
                set |= 1 << numbers[k] - 1;
            }
            return set;
        }

        int sum() {
            int sum = 0;
            for (int k = 0; k < size; k++) {
                sum += countsAs(numbers[k], uses[k]);
            }
            return sum;
        }

        int price(Port port) {
            int price = 0;
            for (int k = 0; k < size; k++) {
                price += port.price(numbers[k], uses[k]);
            }
            return price;
        }

        boolean areSaying(int kind) {
            if (size == 0 || kind == WHOLE && size > 1) {
                return false;
            }
            for (int k = 0; k < size; k++) {
                if (uses[k] > lastUse(kind)) {
                    return false;
                }
            }
            return true;
        }
    }

    /**
     * The best sayings. Which of two sayings is better does not depend on which numbers one may use, so
     * the best one of a set is that of each smaller set that holds its numbers, too: those found last
     * are kept, some for each amount, as most questions ask for hardly smaller sets again and again.
     */
    private static final class Sayings {
        private static final int ROOM = 8;
        private static final int SLOTS = (MOST_AMOUNT + 1) * ROOM;

        private final Table table = new Table();
        private final int[] mays = new int[SLOTS];
        private final int[] kinds = new int[SLOTS];
        private final int[] ands = new int[SLOTS];
        private final int[] lesses = new int[SLOTS];
        private final int[] halves = new int[SLOTS];
        private final int[] prices = new int[SLOTS];
        private final int[] turn = new int[MOST_AMOUNT + 1];
        private int found;

        /** Costs and law are those of the port that is laid: with another one nothing is known. */
        void forget(Port port) {
            table.setPort(port);
            for (int slot = 0; slot < SLOTS; slot++) {
                kinds[slot] = NONE;
            }
        }

        /** The numbers of the best saying, which price() and inUse() then tell of; 0 if there is none. */
        int find(int may, int amount, int kind) {
            found = 0;
            if (amount < 1 || amount > MOST_AMOUNT) {
                return 0;
            }
            int first = amount * ROOM;
            for (int slot = first; slot < first + ROOM; slot++) {
                if (kinds[slot] == kind && (may & ~mays[slot]) == 0 && (used(slot) & ~may) == 0) {
                    found = slot;
                    return used(slot);
                }
            }
            found = first + turn[amount];
            turn[amount] = (turn[amount] + 1) % ROOM;
            table.build(kind == WHOLE ? may & oneOf(amount) : may, kind);
            table.pick(amount);
            mays[found] = may;
            kinds[found] = kind;
            ands[found] = table.ands;
            lesses[found] = table.lesses;
            halves[found] = table.halves;
            prices[found] = table.price;
            return used(found);
        }

        int price() {
            return prices[found];
        }

        int inUse(int use) {
            return use == AND ? ands[found] : use == LESS ? lesses[found] : halves[found];
        }

        private int used(int slot) {
            return ands[slot] | lesses[slot] | halves[slot];
        }

        /** By WHOLE no other number can stand in what comes to an amount, so the others are left out. */
        private static int oneOf(int amount) {
            return amount > MOST_NUMBERS ? 0 : 1 << amount - 1;
        }
    }

    /**
     * For each sum, and for the numbers of a set from the k-th on, the least weight of what comes to it,
     * the weight being a thousand with each number and the price: no price comes to a thousand.
     */
    private static final class Table {
        private static final int WIDTH = 2 * MOST_SUM + 1;
        private static final int ONE = 1000;
        private static final int NEVER = 1000000;

        int ands;
        int lesses;
        int halves;
        int price;
        private final int[] least = new int[(MOST_NUMBERS + 1) * WIDTH];
        private final int[] low = new int[MOST_NUMBERS + 1];
        private final int[] high = new int[MOST_NUMBERS + 1];
        private final int[] numbers = new int[MOST_NUMBERS];
        private final int[] prices = new int[(HALF + 1) * (MOST_NUMBERS + 1)];
        private int size;
        private int builtMay;
        private int builtKind;

        void setPort(Port port) {
            builtKind = NONE;
            for (int use = AND; use <= HALF; use++) {
                for (int x = 1; x <= MOST_NUMBERS; x++) {
                    prices[use * (MOST_NUMBERS + 1) + x] = port.price(x, use);
                }
            }
        }

        void build(int may, int kind) {
            if (kind == builtKind && may == builtMay) {
                return;
            }
            builtKind = kind;
            builtMay = may;
            listNumbers();
            setBounds();
            least[size * WIDTH + MOST_SUM] = 0;
            for (int k = size - 1; k >= 0; k--) {
                for (int sum = low[k]; sum <= high[k]; sum++) {
                    least[k * WIDTH + MOST_SUM + sum] = NEVER;
                }
                spread(k, 0, 0);
                int x = numbers[k];
                for (int use = AND; use <= lastUse(kind); use++) {
                    if (canStand(x, use)) {
                        spread(k, countsAs(x, use), weight(x, use));
                    }
                }
            }
        }

        /** The first of several best ones: at each number the first use by which the least is still reached. */
        void pick(int amount) {
            ands = 0;
            lesses = 0;
            halves = 0;
            price = 0;
            int sum = amount;
            int left = at(0, sum);
            for (int k = 0; k < size && left < NEVER; k++) {
                int use = firstUse(k, sum, left);
                if (use != 0) {
                    add(numbers[k], use);
                    sum -= countsAs(numbers[k], use);
                }
                left = at(k + 1, sum);
            }
        }

        private void listNumbers() {
            size = 0;
            for (int x = 1; x <= MOST_NUMBERS; x++) {
                if (hasBit(builtMay, x - 1)) {
                    numbers[size] = x;
                    size++;
                }
            }
        }

        /** Sums that the numbers behind can not reach, or those ahead not bring to an amount, are left out. */
        private void setBounds() {
            boolean signs = builtKind >= SIGNS;
            int behind = 0;
            int ahead = 0;
            for (int k = 0; k < size; k++) {
                behind += numbers[k];
            }
            for (int k = 0; k <= size; k++) {
                low[k] = signs ? Math.max(-behind, 1 - ahead) : 0;
                high[k] = Math.min(behind, signs ? MOST_AMOUNT + ahead : MOST_AMOUNT);
                if (k < size) {
                    behind -= numbers[k];
                    ahead += numbers[k];
                }
            }
        }

        /** Row k by its number counting so much, with what the numbers behind it come to. */
        private void spread(int k, int counted, int weight) {
            int last = Math.min(high[k], high[k + 1] + counted);
            int here = k * WIDTH + MOST_SUM;
            int behind = here + WIDTH - counted;
            for (int sum = Math.max(low[k], low[k + 1] + counted); sum <= last; sum++) {
                int whole = least[behind + sum] + weight;
                if (whole < least[here + sum]) {
                    least[here + sum] = whole;
                }
            }
        }

        private int firstUse(int k, int sum, int left) {
            int x = numbers[k];
            for (int use = AND; use <= lastUse(builtKind); use++) {
                if (canStand(x, use) && at(k + 1, sum - countsAs(x, use)) + weight(x, use) == left) {
                    return use;
                }
            }
            return 0;
        }

        private int at(int k, int sum) {
            return sum < low[k] || sum > high[k] ? NEVER : least[k * WIDTH + MOST_SUM + sum];
        }

        private int weight(int x, int use) {
            return ONE + prices[use * (MOST_NUMBERS + 1) + x];
        }

        private void add(int x, int use) {
            int bit = 1 << x - 1;
            ands |= use == AND ? bit : 0;
            lesses |= use == LESS ? bit : 0;
            halves |= use == HALF ? bit : 0;
            price += weight(x, use) - ONE;
        }
    }

    /** How things stand, or would stand, when those who have not spoken begin to. */
    private static final class Scene {
        int who;
        int all;
        int taken;
        int nobodys;
        int kind;
        final int[] amount = new int[MOST_PERSONS];
        private final int[] own = new int[MOST_PERSONS];

        void setNow(Port port, Day day) {
            setFree(port);
            who &= ~day.said;
            taken = day.taken();
            for (int i = 0; i < MOST_PERSONS; i++) {
                own[i] |= day.lentTo[i];
                amount[i] = port.amount[i];
            }
        }

        /** Day k of a year by z. */
        void setDrawn(Port port, int z, int k) {
            setFree(port);
            for (int i = 0; i < MOST_PERSONS; i++) {
                long x = 7919L * z + 6151L * k + 101L * i + 1;
                amount[i] = (int) (x * x % 65521 % 99) + 1;
            }
        }

        int mayUse(int i, int butTaken) {
            return i < 0 || i >= MOST_PERSONS ? 0 : (nobodys | own[i]) & ~butTaken;
        }

        private void setFree(Port port) {
            who = (1 << port.persons) - 1;
            all = port.all();
            taken = 0;
            nobodys = all & ~together(port.owned);
            kind = port.kind;
            for (int i = 0; i < MOST_PERSONS; i++) {
                own[i] = port.owned[i];
            }
        }
    }

    /** What would become of those who have not spoken. */
    private static final class Crowd {
        int mostStuck;
        int lower;
        int higher;
        int cornerAmount;
        int mostCan;
        final int[] bestRow = new int[MOST_PERSONS];
        private final Sayings sayings;
        private final int[] usedFor = new int[MOST_AMOUNT + 1];
        private final int[] row = new int[MOST_PERSONS];
        private final int[] usedAt = new int[MOST_PERSONS * MOST_PERSONS];

        Crowd(Sayings known) {
            sayings = known;
        }

        int stuckIn(Scene scene) {
            int taken = scene.taken;
            int stuck = 0;
            for (int i = 0; i < MOST_PERSONS; i++) {
                if (hasBit(scene.who, i)) {
                    int used = sayings.find(scene.mayUse(i, taken), scene.amount[i], scene.kind);
                    taken |= used;
                    stuck |= used == 0 ? 1 << i : 0;
                }
            }
            return stuck;
        }

        boolean denyOne(Scene scene) {
            int taken = scene.taken;
            mostStuck = NONE;
            for (int x = 1; x <= MOST_NUMBERS; x++) {
                int bit = 1 << x - 1;
                if ((bit & ~scene.all) == 0 && (bit & taken) == 0 && getsWorse(scene, taken | bit)) {
                    lower = x;
                    higher = x;
                }
            }
            return mostStuck != NONE;
        }

        boolean denyTwo(Scene scene) {
            int taken = scene.taken;
            mostStuck = NONE;
            for (int x = 1; x < MOST_NUMBERS; x++) {
                for (int y = x + 1; y <= MOST_NUMBERS; y++) {
                    int bits = 1 << x - 1 | 1 << y - 1;
                    if ((bits & ~scene.all) == 0 && (bits & taken) == 0 && getsWorse(scene, taken | bits)) {
                        lower = x;
                        higher = y;
                    }
                }
            }
            return mostStuck != NONE;
        }

        /** All that he could say is found first: the table stands for his numbers until others speak. */
        boolean cornerBy(Scene scene, int i) {
            int taken = scene.taken;
            int may = scene.mayUse(i, taken);
            for (int amount = 1; amount <= MOST_AMOUNT; amount++) {
                usedFor[amount] = sayings.find(may, amount, scene.kind);
            }
            scene.who &= ~(1 << i);
            mostStuck = NONE;
            for (int amount = 1; amount <= MOST_AMOUNT; amount++) {
                if (usedFor[amount] != 0 && getsWorse(scene, taken | usedFor[amount])) {
                    cornerAmount = amount;
                }
            }
            return mostStuck != NONE;
        }

        void findOrder(Scene scene) {
            mostCan = -1;
            search(scene, 0, scene.taken, scene.who, 0);
        }

        /** Nothing is worse than all of them stuck, and a later one that is just as bad does not count. */
        private boolean getsWorse(Scene scene, int taken) {
            if (mostStuck >= Integer.bitCount(scene.who)) {
                return false;
            }
            scene.taken = taken;
            int many = Integer.bitCount(stuckIn(scene));
            if (many <= mostStuck) {
                return false;
            }
            mostStuck = many;
            return true;
        }

        /**
         * Rows come by who is first, so a later one must be better. Who can not speak now can not later in
         * the row: once nobody can, the rest stands in its first order.
         */
        private void search(Scene scene, int place, int taken, int left, int can) {
            int able = place < MOST_PERSONS ? ableAt(scene, place, taken, left) : 0;
            if (can + Integer.bitCount(able) <= mostCan) {
                return;
            }
            if (able == 0) {
                record(place, left, can);
                return;
            }
            for (int i = 0; i < MOST_PERSONS; i++) {
                if (hasBit(left, i)) {
                    row[place] = i;
                    int used = usedAt[place * MOST_PERSONS + i];
                    search(scene, place + 1, taken | used, left & ~(1 << i), can + (able >> i & 1));
                }
            }
        }

        private int ableAt(Scene scene, int place, int taken, int left) {
            int able = 0;
            for (int i = 0; i < MOST_PERSONS; i++) {
                if (hasBit(left, i)) {
                    int used = sayings.find(scene.mayUse(i, taken), scene.amount[i], scene.kind);
                    usedAt[place * MOST_PERSONS + i] = used;
                    able |= used != 0 ? 1 << i : 0;
                }
            }
            return able;
        }

        private void record(int place, int left, int can) {
            mostCan = can;
            for (int k = 0; k < place && k < MOST_PERSONS; k++) {
                bestRow[k] = row[k];
            }
            int end = place;
            for (int i = 0; i < MOST_PERSONS; i++) {
                if (hasBit(left, i) && end < MOST_PERSONS) {
                    bestRow[end] = i;
                    end++;
                }
            }
        }
    }

    /** In how many ways all numbers of a set come to each sum. */
    private static final class WaySums {
        private int[] ways = new int[2 * MOST_SUM + 1];
        private int[] next = new int[2 * MOST_SUM + 1];
        private int bound;

        void reckon(int set, int kind) {
            bound = 0;
            ways[MOST_SUM] = kind == WHOLE && Integer.bitCount(set) != 1 ? 0 : 1;
            for (int x = 1; x <= MOST_NUMBERS; x++) {
                if (hasBit(set, x - 1)) {
                    join(x, lastUse(kind));
                }
            }
        }

        int comingTo(int amount) {
            return amount < 0 || amount > bound ? 0 : ways[MOST_SUM + amount];
        }

        private void join(int x, int last) {
            int wider = Math.min(bound + x, MOST_SUM);
            for (int sum = -wider; sum <= wider; sum++) {
                next[MOST_SUM + sum] = 0;
            }
            for (int use = AND; use <= last; use++) {
                int counted = countsAs(x, use);
                for (int sum = -bound; sum <= bound && canStand(x, use); sum++) {
                    next[MOST_SUM + sum + counted] += ways[MOST_SUM + sum];
                }
            }
            int[] old = ways;
            ways = next;
            next = old;
            bound = wider;
        }
    }

    /** The clerk's book. */
    private static final class Book {
        int size;
        int readings;
        private final int[] rows = new int[MOST_ROWS];
        private final int[] canBe = new int[MOST_ROWS];
        private final int[] wasOf = new int[MOST_ROWS];
        private final int[] isOf = new int[MOST_ROWS];

        boolean append(int set) {
            if (size >= MOST_ROWS) {
                return false;
            }
            rows[size] = set;
            size++;
            return true;
        }

        int inTwoRows() {
            int once = 0;
            int twice = 0;
            for (int row = 0; row < size; row++) {
                twice |= once & rows[row];
                once |= rows[row];
            }
            return twice;
        }

        void read(Port port, WaySums sums) {
            for (int row = 0; row < size; row++) {
                sums.reckon(rows[row], port.kind);
                canBe[row] = 0;
                wasOf[row] = 0;
                for (int i = 0; i < port.persons; i++) {
                    canBe[row] |= sums.comingTo(port.amount[i]) > 0 ? 1 << i : 0;
                }
            }
            readings = 0;
            readFrom(0, 0);
        }

        /** Who it is of in all readings, if it is of nobody else in any. */
        int surePerson(int row) {
            if (row < 0 || row >= size || Integer.bitCount(wasOf[row]) != 1) {
                return NONE;
            }
            return firstBit(wasOf[row]);
        }

        private void readFrom(int row, int given) {
            if (row >= size || row >= MOST_ROWS) {
                readings++;
                for (int k = 0; k < size; k++) {
                    wasOf[k] |= isOf[k];
                }
                return;
            }
            for (int i = 0; i < MOST_PERSONS; i++) {
                if (hasBit(canBe[row] & ~given, i)) {
                    isOf[row] = 1 << i;
                    readFrom(row + 1, given | 1 << i);
                }
            }
        }
    }
}
