import java.util.ArrayList;
import java.util.Arrays;
import java.util.List;
import java.util.regex.Matcher;
import java.util.regex.Pattern;

/**
 * The document told a second time and by brute force: all sayings are written out and sorted, all rows are
 * tried, days are kept as whole copies. Of more numbers than can be written out {@link BigSayings} finds them.
 */
final class Model {
    private static final int BAD = -1, NO = -2, FULL = -3, NONE = -4;
    private static final int MOST_WRITTEN_OUT = 9;
    private static final Pattern ITEM = Pattern.compile("[ncphk]\\d\\d?(,\\d\\d?)*;");

    /** uses[x] is 1, 2, 3, or 4 where NUMBER x is not used, so that of two sayings the smaller row is the first. */
    static final class Saying implements Comparable<Saying> {
        int[] uses;
        int set;
        int sum;
        int price;
        int lastUse;

        @Override
        public int compareTo(Saying other) {
            int byCount = Integer.compare(Integer.bitCount(set), Integer.bitCount(other.set));
            int byPrice = Integer.compare(price, other.price);
            return byCount != 0 ? byCount : byPrice != 0 ? byPrice : Arrays.compare(uses, other.uses);
        }

        boolean isBy(int kind) {
            return kind == 0 ? lastUse == 1 && Integer.bitCount(set) == 1 : lastUse <= kind || kind == 3;
        }

        int bits(int use) {
            int bits = 0;
            for (int x = 1; x < uses.length; x++) {
                bits |= uses[x] == use ? 1 << x - 1 : 0;
            }
            return bits;
        }
    }

    private static final class State {
        int[] taker = new int[25];
        int[] borrower = new int[25];
        boolean[] said = new boolean[6];
        int births;
        boolean feast;

        State() {
            Arrays.fill(taker, NONE);
            Arrays.fill(borrower, NONE);
        }

        State copy() {
            State copy = new State();
            copy.taker = taker.clone();
            copy.borrower = borrower.clone();
            copy.said = said.clone();
            copy.births = births;
            copy.feast = feast;
            return copy;
        }

        int many(int[] row) {
            int many = 0;
            for (int who : row) {
                many += who == NONE ? 0 : 1;
            }
            return many;
        }
    }

    private final StringBuilder text = new StringBuilder();
    private int numbers;
    private int[] cost;
    private int[] owner;
    private List<Integer> amounts;
    private int[] law;
    private List<Saying> sayings;
    private BigSayings bigSayings;
    private State state;
    private List<State> past;
    private List<State> kept;
    private List<int[]> words;
    private List<Integer> rows;

    Model() {
        text.append("n9;p4;p4;p7;p12;c7,3;h5,0;");
        lay();
        text.setLength(0);
    }

    // ---- ports

    int write(int letter) {
        if (letter < 32 || letter > 126) {
            return BAD;
        }
        if (text.length() == 200) {
            return FULL;
        }
        text.append((char) letter);
        return text.length();
    }

    int wipe() {
        int length = text.length();
        text.setLength(0);
        return length;
    }

    int fault() {
        return read(false);
    }

    int lay() {
        boolean anybody = text.toString().indexOf('p') >= 0;
        if (read(false) != NONE || !anybody) {
            return NO;
        }
        read(true);
        state = new State();
        past = new ArrayList<>();
        kept = new ArrayList<>();
        words = new ArrayList<>();
        rows = new ArrayList<>();
        writeOutSayings();
        return numbers;
    }

    private int read(boolean forGood) {
        int n = 12;
        int[] costs = new int[25];
        Arrays.fill(costs, 1);
        int[] owners = new int[25];
        Arrays.fill(owners, NONE);
        List<Integer> people = new ArrayList<>();
        int[] rule = {1, 1, 2};
        String seen = "";
        Matcher matcher = ITEM.matcher(text);
        int place = 0;
        while (place < text.length()) {
            matcher.region(place, text.length());
            if (!matcher.lookingAt()) {
                return place;
            }
            String item = matcher.group();
            String[] parts = item.substring(1, item.length() - 1).split(",");
            int[] v = Arrays.stream(parts).mapToInt(Integer::parseInt).toArray();
            String shape = item.charAt(0) + "" + v.length;
            boolean fine = false;
            if (shape.equals("n1")) {
                fine = v[0] >= 1 && v[0] <= 24 && seen.replace("n", "").isEmpty();
                n = v[0];
            } else if (shape.equals("c2")) {
                fine = v[0] >= 1 && v[0] <= n && v[1] <= 9;
                if (fine) {
                    costs[v[0]] = v[1];
                }
            } else if (shape.equals("p1")) {
                fine = v[0] >= 1 && v[0] <= 99 && people.size() < 6;
                people.add(v[0]);
            } else if (shape.equals("h2")) {
                fine = v[0] >= 1 && v[0] <= n && v[1] < people.size();
                if (fine) {
                    owners[v[0]] = v[1];
                }
            } else if (shape.equals("k3")) {
                fine = v[0] <= 3 && v[1] <= 9 && v[2] <= 9;
                rule = v;
            }
            if (!fine) {
                return place;
            }
            seen += item.charAt(0);
            place = matcher.end();
        }
        if (forGood) {
            numbers = n;
            cost = costs;
            owner = owners;
            amounts = people;
            law = rule;
        }
        return NONE;
    }

    private void writeOutSayings() {
        sayings = new ArrayList<>();
        bigSayings = null;
        if (numbers > MOST_WRITTEN_OUT) {
            bigSayings = new BigSayings(numbers, cost, law);
            return;
        }
        int[] uses = new int[numbers + 1];
        writeOut(uses, 1);
        sayings.sort(null);
    }

    private void writeOut(int[] uses, int x) {
        if (x <= numbers) {
            for (int use = 1; use <= 4; use++) {
                if (use != 3 || x % 2 == 0) {
                    uses[x] = use;
                    writeOut(uses, x + 1);
                }
            }
            return;
        }
        Saying saying = new Saying();
        saying.uses = uses.clone();
        for (int y = 1; y <= numbers; y++) {
            if (uses[y] != 4) {
                saying.set |= 1 << y - 1;
                saying.sum += worth(y, uses[y]);
                saying.price += price(y, uses[y]);
                saying.lastUse = Math.max(saying.lastUse, uses[y]);
            }
        }
        if (saying.set != 0 && saying.sum >= 0) {
            sayings.add(saying);
        }
    }

    private static int worth(int x, int use) {
        return new int[] {0, x, -x, x / 2}[use];
    }

    private int price(int x, int use) {
        return cost[x] + new int[] {0, 0, law[1], law[2]}[use];
    }

    private boolean noNumber(int x) {
        return x < 1 || x > numbers;
    }

    private boolean nobody(int i) {
        return i < 0 || i >= amounts.size();
    }

    private boolean noSet(int set) {
        return set <= 0 || set >= 1 << numbers;
    }

    int number(int x, int what) {
        if (noNumber(x) || what < 0 || what > 3) {
            return BAD;
        }
        return new int[][] {cost, owner, state.taker, state.borrower}[what][x];
    }

    int person(int i, int what) {
        if (nobody(i) || what < 0 || what > 2) {
            return BAD;
        }
        return what == 0 ? amounts.get(i) : what == 1 ? (state.said[i] ? 1 : 0) : may(i, state);
    }

    int law(int what) {
        return what < 0 || what > 2 ? BAD : law[what];
    }

    private int may(int i, State s) {
        int may = 0;
        for (int x = 1; x <= numbers; x++) {
            boolean his = owner[x] == NONE || owner[x] == i || s.borrower[x] == i;
            may |= his && s.taker[x] == NONE ? 1 << x - 1 : 0;
        }
        return may;
    }

    // ---- words

    int tell(int x, int use) {
        if (noNumber(x) || use < 1 || use > 3) {
            return BAD;
        }
        for (int[] word : words) {
            if (word[0] == x) {
                return NO;
            }
        }
        if (use == 3 && x % 2 == 1) {
            return NO;
        }
        if (words.size() == 10) {
            return FULL;
        }
        words.add(new int[] {x, use});
        return words.size();
    }

    int hush() {
        int many = words.size();
        words.clear();
        return many;
    }

    int words(int what) {
        int sum = 0;
        int cheap = 0;
        int ands = 0;
        int lesses = 0;
        for (int[] word : words) {
            sum += worth(word[0], word[1]);
            cheap += price(word[0], word[1]);
            ands += word[1] == 1 ? 1 : 0;
            lesses += word[1] == 2 ? 1 : 0;
        }
        int many = words.size();
        boolean[] allowed = {ands == 1 && many == 1, ands == many, ands + lesses == many, true};
        return what == 0 ? sum + 1000 : what == 1 ? cheap : what != 2 ? BAD : many > 0 && allowed[law[0]] ? 1 : 0;
    }

    // ---- days

    private void remember() {
        past.add(state.copy());
        if (past.size() > 8) {
            past.remove(0);
        }
    }

    private void take(State s, int i, int set) {
        for (int x = 1; x <= numbers; x++) {
            if ((set >> x - 1 & 1) == 1) {
                s.taker[x] = i;
            }
        }
        s.said[i] = true;
    }

    int say(int i) {
        if (nobody(i)) {
            return BAD;
        }
        int set = 0;
        for (int[] word : words) {
            set |= 1 << word[0] - 1;
        }
        if (words(2) == 0 || words(0) != 1000 + amounts.get(i) || (set & may(i, state)) != set || state.said[i]) {
            return NO;
        }
        remember();
        take(state, i, set);
        return words(1);
    }

    int speak(int i) {
        if (nobody(i)) {
            return BAD;
        }
        if (state.said[i]) {
            return NO;
        }
        Saying saying = bestOf(i, amounts.get(i), state, law[0]);
        if (saying == null) {
            return NONE;
        }
        remember();
        take(state, i, saying.set);
        return Integer.bitCount(saying.set);
    }

    int lend(int x, int i) {
        if (noNumber(x) || nobody(i)) {
            return BAD;
        }
        if (owner[x] == NONE || owner[x] == i || state.taker[x] != NONE || state.borrower[x] != NONE) {
            return NO;
        }
        remember();
        state.borrower[x] = i;
        return state.many(state.borrower);
    }

    int born() {
        int k = state.births + 1;
        if (state.feast || k > numbers || state.taker[k] != NONE) {
            return NO;
        }
        remember();
        state.births = k;
        state.taker[k] = 7;
        return k;
    }

    int dusk(boolean feast) {
        remember();
        int taken = state.many(state.taker);
        state = new State();
        state.feast = feast;
        return taken;
    }

    int undo() {
        if (past.isEmpty()) {
            return NO;
        }
        state = past.remove(past.size() - 1);
        return past.size();
    }

    private Saying bestOf(int i, int amount, State s, int kind) {
        int may = may(i, s);
        if (bigSayings != null) {
            return bigSayings.best(may, amount, kind);
        }
        for (Saying saying : sayings) {
            if (saying.sum == amount && (saying.set & may) == saying.set && saying.isBy(kind)) {
                return saying;
            }
        }
        return null;
    }

    int best(int i, int amount, int what) {
        if (nobody(i) || amount < 1 || amount > 99 || what < 0 || what > 4) {
            return BAD;
        }
        Saying saying = bestOf(i, amount, state, law[0]);
        if (saying == null) {
            return NONE;
        }
        return what == 0 ? Integer.bitCount(saying.set) : what == 1 ? saying.price : saying.bits(what - 1);
    }

    // ---- who is stuck

    private List<Integer> silent(State s) {
        List<Integer> silent = new ArrayList<>();
        for (int i = 0; i < amounts.size(); i++) {
            if (!s.said[i]) {
                silent.add(i);
            }
        }
        return silent;
    }

    /** Those of a row that can not speak, as bits. */
    private int speakAll(List<Integer> row, State from, int kind) {
        State s = from.copy();
        int stuck = 0;
        for (int i : row) {
            Saying saying = bestOf(i, amounts.get(i), s, kind);
            if (saying == null) {
                stuck |= 1 << i;
            } else {
                take(s, i, saying.set);
            }
        }
        return stuck;
    }

    private int manyStuck(State from, int kind) {
        return Integer.bitCount(speakAll(silent(from), from, kind));
    }

    int stuck() {
        return speakAll(silent(state), state, law[0]);
    }

    int freed(int i) {
        if (nobody(i)) {
            return BAD;
        }
        if (state.said[i] || best(i, amounts.get(i), 0) != NONE) {
            return NONE;
        }
        for (int x = 1; x <= numbers; x++) {
            State other = state.copy();
            other.taker[x] = NONE;
            if (state.taker[x] != NONE && bestOf(i, amounts.get(i), other, law[0]) != null) {
                return x;
            }
        }
        return NONE;
    }

    private List<List<Integer>> allRows(List<Integer> people) {
        List<List<Integer>> all = new ArrayList<>();
        if (people.isEmpty()) {
            all.add(new ArrayList<>());
        }
        for (Integer first : people) {
            List<Integer> others = new ArrayList<>(people);
            others.remove(first);
            for (List<Integer> rest : allRows(others)) {
                rest.add(0, first);
                all.add(rest);
            }
        }
        return all;
    }

    int order(int k) {
        if (k < -1 || k > 5) {
            return BAD;
        }
        int most = -1;
        List<Integer> first = null;
        for (List<Integer> row : allRows(silent(state))) {
            int can = row.size() - Integer.bitCount(speakAll(row, state, law[0]));
            if (can > most) {
                most = can;
                first = row;
            }
        }
        return k == -1 ? most : k < first.size() ? first.get(k) : NONE;
    }

    int deny(int n, int what) {
        if (n < 1 || n > 2 || what < 0 || what > 2) {
            return BAD;
        }
        int[] best = {-1, 0, 0};
        for (int x = 1; x <= numbers; x++) {
            for (int y = n == 1 ? x : x + 1; y <= (n == 1 ? x : numbers); y++) {
                if (state.taker[x] == NONE && state.taker[y] == NONE) {
                    State other = state.copy();
                    other.taker[x] = 7;
                    other.taker[y] = 7;
                    int many = manyStuck(other, law[0]);
                    best = many > best[0] ? new int[] {many, x, y} : best;
                }
            }
        }
        return best[0] < 0 ? NONE : best[what];
    }

    int guard() {
        int fewest = 99;
        int first = NONE;
        for (int x = 1; x <= numbers; x++) {
            if (state.taker[x] == NONE) {
                int was = owner[x];
                owner[x] = NONE;
                int many = manyStuck(state, law[0]);
                owner[x] = was;
                if (many < fewest) {
                    fewest = many;
                    first = x;
                }
            }
        }
        return first;
    }

    int value(int x) {
        if (noNumber(x)) {
            return BAD;
        }
        if (state.taker[x] != NONE) {
            return NO;
        }
        State other = state.copy();
        other.taker[x] = 7;
        int many = 0;
        for (int i = 0; i < amounts.size(); i++) {
            boolean now = bestOf(i, amounts.get(i), state, law[0]) != null;
            boolean then = bestOf(i, amounts.get(i), other, law[0]) != null;
            many += now && !then ? 1 : 0;
        }
        return many;
    }

    int changed() {
        int[] many = new int[4];
        int first = 0;
        for (int kind = 0; kind < 4; kind++) {
            many[kind] = manyStuck(state, kind);
            first = many[kind] < many[first] ? kind : first;
        }
        return first;
    }

    // ---- ways, books

    private int waysOf(int set, int amount, int kind) {
        if (bigSayings != null) {
            return bigSayings.ways(set, amount, kind);
        }
        int many = 0;
        for (Saying saying : sayings) {
            many += saying.set == set && saying.sum == amount && saying.isBy(kind) ? 1 : 0;
        }
        return many;
    }

    int ways(int set, int amount, int k) {
        return noSet(set) || amount < 0 || amount > 99 || k < 0 || k > 3 ? BAD : waysOf(set, amount, k);
    }

    int lowest(int i) {
        if (nobody(i)) {
            return BAD;
        }
        for (int amount = 1; amount <= 99; amount++) {
            if (bestOf(i, amount, state, law[0]) == null) {
                return amount;
            }
        }
        return NONE;
    }

    int enter(int set) {
        if (noSet(set)) {
            return BAD;
        }
        if (rows.size() == 6) {
            return FULL;
        }
        rows.add(set);
        return rows.size();
    }

    int close() {
        int many = rows.size();
        rows.clear();
        return many;
    }

    private void readings(List<Integer> given, List<List<Integer>> all) {
        if (given.size() == rows.size()) {
            all.add(new ArrayList<>(given));
            return;
        }
        for (int i = 0; i < amounts.size(); i++) {
            if (!given.contains(i) && waysOf(rows.get(given.size()), amounts.get(i), law[0]) > 0) {
                given.add(i);
                readings(given, all);
                given.remove(given.size() - 1);
            }
        }
    }

    int book(int row) {
        if (row < -1 || row >= rows.size()) {
            return BAD;
        }
        List<List<Integer>> all = new ArrayList<>();
        readings(new ArrayList<>(), all);
        if (row == -1) {
            return all.size();
        }
        int sure = NONE;
        for (List<Integer> reading : all) {
            if (sure != NONE && sure != reading.get(row)) {
                return NONE;
            }
            sure = reading.get(row);
        }
        return sure;
    }

    int twice() {
        for (int x = 1; x <= numbers; x++) {
            int many = 0;
            for (int set : rows) {
                many += set >> x - 1 & 1;
            }
            if (many >= 2) {
                return x;
            }
        }
        return NONE;
    }

    int corner(int i, int what) {
        if (nobody(i) || what < 0 || what > 1) {
            return BAD;
        }
        if (state.said[i]) {
            return NO;
        }
        int[] best = {NONE, -1};
        for (int amount = 1; amount <= 99; amount++) {
            Saying saying = bestOf(i, amount, state, law[0]);
            if (saying != null) {
                State other = state.copy();
                take(other, i, saying.set);
                int many = manyStuck(other, law[0]);
                best = many > best[1] ? new int[] {amount, many} : best;
            }
        }
        return best[0] == NONE ? NONE : best[what];
    }

    int year(int z, int n, int what) {
        if (z < 0 || z > 9999 || n < 1 || n > 30 || what < 0 || what > 1) {
            return BAD;
        }
        List<Integer> told = amounts;
        int times = 0;
        int days = 0;
        for (int k = 0; k < n; k++) {
            amounts = new ArrayList<>();
            for (int i = 0; i < told.size(); i++) {
                long x = 7919L * z + 6151L * k + 101L * i + 1;
                amounts.add((int) (x * x % 65521 % 99 + 1));
            }
            int many = manyStuck(new State(), law[0]);
            times += many;
            days += many == 0 ? 1 : 0;
        }
        amounts = told;
        return what == 0 ? times : days;
    }

    int keep() {
        if (kept.size() == 2) {
            return FULL;
        }
        kept.add(state.copy());
        return kept.size();
    }

    int back() {
        if (kept.isEmpty()) {
            return NO;
        }
        state = kept.remove(kept.size() - 1);
        past.clear();
        return kept.size();
    }

    int count(int what) {
        switch (what) {
            case 0: return numbers;
            case 1: return amounts.size();
            case 2: return state.many(state.taker);
            case 3: return amounts.size() - silent(state).size();
            case 4: return state.births;
            case 5: return state.feast ? 1 : 0;
            case 6: return words.size();
            case 7: return rows.size();
            case 8: return past.size();
            case 9: return kept.size();
            case 10: return text.length();
            default: return BAD;
        }
    }
}
