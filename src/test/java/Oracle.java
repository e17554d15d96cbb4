import java.util.ArrayList;
import java.util.Arrays;
import java.util.HashMap;
import java.util.List;
import java.util.Map;
import java.util.regex.Matcher;
import java.util.regex.Pattern;

/** The document once more, by the dullest ways there are (all rows, all orders, all sets), to hold the class against. */
final class Oracle {
    static final int NONE = -1;

    private Oracle() {
    }

    /** A text read by a pattern: its lines, or its fault and place. */
    static final class Text {
        int fault = 0;
        int place = NONE;
        final List<String> words = new ArrayList<>();
        final List<int[]> numbers = new ArrayList<>();
    }

    private static final Map<String, int[][]> LANDS = new HashMap<>();
    private static final Map<String, int[][]> SEASONS = new HashMap<>();
    private static final Map<String, int[][]> LEDGERS = new HashMap<>();
    private static final Map<String, int[][]> BARGAINS = new HashMap<>();

    static {
        for (String kind : new String[] {"poor", "knight", "widow", "doubter"}) {
            LANDS.put(kind, new int[][] {{0, 5}, {0, 99}, {0, 99}, {0, 9}});
        }
        LANDS.put("road", new int[][] {{0, 5}, {0, 5}, {1, 9}});
        LANDS.put("letter", new int[][] {{1, 60}, {0, 60}});
        LANDS.put("towns", new int[][] {{1, 6}});
        LANDS.put("shut", new int[][] {{0, 5}});
        LANDS.put("bank", new int[][] {{0, 5}});
        LANDS.put("ruler", new int[][] {{0, 5}});
        SEASONS.put("sell", new int[][] {{0, 7}, {0, 3}});
        SEASONS.put("sin", new int[][] {{0, 7}, {1, 60}});
        for (String deed : new String[] {"go", "shut", "open"}) {
            SEASONS.put(deed, new int[][] {{0, 5}});
        }
        SEASONS.put("doubt", new int[][] {});
        SEASONS.put("jubilee", new int[][] {});
        for (String entry : new String[] {"in", "out", "count"}) {
            LEDGERS.put(entry, new int[][] {{0, 99}});
        }
        LEDGERS.put("key", new int[][] {{0, 5}});
        BARGAINS.put("parties", new int[][] {{1, 4}});
        BARGAINS.put("worth", new int[][] {{1, 15}, {0, 40}});
    }

    static Map<String, int[][]> grammar(int sort) {
        return sort == 0 ? LANDS : sort == 1 ? SEASONS : sort == 2 ? LEDGERS : BARGAINS;
    }

    static Text read(int sort, String tape) {
        Text text = new Text();
        List<String> tokens = new ArrayList<>();
        List<Integer> places = new ArrayList<>();
        Matcher next = Pattern.compile("[a-z]+|[0-9]+|[^ \n]", Pattern.DOTALL).matcher(tape);
        while (next.find()) {
            tokens.add(next.group());
            places.add(next.start());
        }
        tokens.add("");
        places.add(tape.length());
        int i = 0;
        while (!tokens.get(i).isEmpty()) {
            int[][] ranges = grammar(sort).get(tokens.get(i));
            if (ranges == null) {
                return faulty(text, 1, places.get(i));
            }
            int[] numbers = new int[ranges.length];
            text.words.add(tokens.get(i));
            for (int k = 0; k < ranges.length; k++) {
                if (!tokens.get(i + 1 + k).matches("[0-9]{1,2}")) {
                    return faulty(text, 1, places.get(i + 1 + k));
                }
                numbers[k] = Integer.parseInt(tokens.get(i + 1 + k));
            }
            if (!tokens.get(i + 1 + ranges.length).equals(";")) {
                return faulty(text, 1, places.get(i + 1 + ranges.length));
            }
            text.numbers.add(numbers);
            i += ranges.length + 2;
        }
        return laterFaults(sort, tape, text, places);
    }

    private static Text faulty(Text text, int fault, int place) {
        text.fault = fault;
        text.place = place;
        return text;
    }

    private static Text laterFaults(int sort, String tape, Text text, List<Integer> places) {
        int token = 0;
        int[] told = new int[2];
        int[] most = {sort == 1 ? 40 : sort == 2 ? 20 : 8, 4};
        for (int line = 0; line < text.words.size(); line++) {
            String word = text.words.get(line);
            int[] numbers = text.numbers.get(line);
            int[][] ranges = grammar(sort).get(word);
            int row = sort == 1 || sort == 2 || ranges.length == 4 ? 0 : word.equals("letter") ? 1 : NONE;
            if (row != NONE && ++told[row] > most[row]) {
                return faulty(text, 3, places.get(token));
            }
            for (int k = 0; k < numbers.length; k++) {
                boolean outside = numbers[k] < ranges[k][0] || numbers[k] > ranges[k][1];
                if (outside || word.equals("road") && k == 1 && numbers[0] == numbers[1]) {
                    return faulty(text, 2, places.get(token + 1 + k));
                }
            }
            token += numbers.length + 2;
        }
        if (sort == 0 && new Land(text).names >= 1 << new Land(text).towns) {
            return faulty(text, 4, tape.length());
        }
        if (sort == 3 && new Bargain(text).names >= 1 << new Bargain(text).parties) {
            return faulty(text, 4, tape.length());
        }
        return text;
    }

    static final class Buyer {
        int kind;
        int town;
        int owed;
        int means;
        int fear;
        int bought;
        int paid;

        boolean takes(int years, int price) {
            if (price > means) {
                return false;
            }
            int off = Math.min(years, owed);
            switch (kind) {
                case 0: return owed > 0 && price <= fear * off;
                case 1: return price <= fear * years;
                case 2: return owed > 0 && price <= 2 * fear * off;
                default: return owed > 0 && 2 * price <= fear * off;
            }
        }

        Buyer copy() {
            Buyer same = new Buyer();
            same.kind = kind;
            same.town = town;
            same.owed = owed;
            same.means = means;
            same.fear = fear;
            return same;
        }
    }

    static final class Land {
        int towns = 3;
        int bank;
        int ruler;
        int shut;
        int names;
        final int[][] road = new int[6][6];
        final List<Buyer> buyers = new ArrayList<>();
        final List<int[]> letters = new ArrayList<>();

        Land(Text text) {
            for (int i = 0; i < text.words.size(); i++) {
                int[] n = text.numbers.get(i);
                switch (text.words.get(i)) {
                    case "towns": towns = n[0]; break;
                    case "bank": bank = n[0]; break;
                    case "ruler": ruler = n[0]; break;
                    case "shut": shut |= 1 << n[0]; names |= 1 << n[0]; break;
                    case "letter": letters.add(n); break;
                    case "road":
                        road[n[0]][n[1]] = n[2];
                        road[n[1]][n[0]] = n[2];
                        names |= 1 << n[0] | 1 << n[1];
                        break;
                    default: addBuyer(text.words.get(i), n); break;
                }
            }
        }

        private void addBuyer(String kind, int[] n) {
            Buyer one = new Buyer();
            one.kind = Arrays.asList("poor", "knight", "widow", "doubter").indexOf(kind);
            one.town = n[0];
            one.owed = n[1];
            one.means = n[2];
            one.fear = n[3];
            buyers.add(one);
            names |= 1 << n[0];
        }

        boolean isShut(int town, int by) {
            return (by >> town & 1) != 0;
        }

        /** By all ways that come to no town twice; NONE: there is none. */
        int days(int from, int to, int by) {
            return walk(from, to, by, 1 << from);
        }

        private int walk(int from, int to, int by, int gone) {
            if (from == to) {
                return 0;
            }
            int best = NONE;
            for (int t = 0; t < towns; t++) {
                if (road[from][t] > 0 && (gone >> t & 1) == 0 && !isShut(t, by)) {
                    int rest = walk(t, to, by, gone | 1 << t);
                    if (rest != NONE && (best == NONE || road[from][t] + rest < best)) {
                        best = road[from][t] + rest;
                    }
                }
            }
            return best;
        }

        /** All rows of some of the towns but 0, each but once. */
        List<List<Integer>> allRows() {
            List<List<Integer>> rows = new ArrayList<>();
            rows.add(new ArrayList<>());
            for (int i = 0; i < rows.size(); i++) {
                for (int t = 1; t < towns; t++) {
                    if (!rows.get(i).contains(t)) {
                        List<Integer> longer = new ArrayList<>(rows.get(i));
                        longer.add(t);
                        rows.add(longer);
                    }
                }
            }
            return rows;
        }

        int daysOf(List<Integer> row, int[][] days) {
            int sum = 0;
            int at = 0;
            for (int t : row) {
                if (days[at][t] == NONE) {
                    return NONE;
                }
                sum += days[at][t];
                at = t;
            }
            return sum;
        }

        int[][] allDays(int by) {
            int[][] days = new int[towns][towns];
            for (int from = 0; from < towns; from++) {
                for (int to = 0; to < towns; to++) {
                    days[from][to] = days(from, to, by);
                }
            }
            return days;
        }

        int salesIn(int town, int letter, int by) {
            int sum = 0;
            for (Buyer one : buyers) {
                if (one.town == town && !isShut(town, by) && one.takes(letters.get(letter)[0], letters.get(letter)[1])) {
                    sum += letters.get(letter)[1];
                }
            }
            return sum;
        }

        /** The coins, then the row. */
        List<Integer> tour(int d, int letter, int by) {
            int[][] days = allDays(by);
            List<Integer> best = null;
            for (List<Integer> row : allRows()) {
                int took = daysOf(row, days);
                if (took != NONE && took <= d) {
                    int coins = salesIn(0, letter, by);
                    for (int t : row) {
                        coins += salesIn(t, letter, by);
                    }
                    List<Integer> one = new ArrayList<>(row);
                    one.add(0, coins);
                    if (best == null || coins > best.get(0) || coins == best.get(0) && isShorterOrFirst(one, best)) {
                        best = one;
                    }
                }
            }
            return best;
        }

        static boolean isShorterOrFirst(List<Integer> a, List<Integer> b) {
            return a.size() != b.size() ? a.size() < b.size() : isFirst(a, b);
        }

        static boolean isFirst(List<Integer> a, List<Integer> b) {
            for (int i = 0; i < a.size(); i++) {
                if (!a.get(i).equals(b.get(i))) {
                    return a.get(i) < b.get(i);
                }
            }
            return false;
        }

        /** The days, then the row; null: it can't be done. */
        List<Integer> round() {
            int[][] days = allDays(shut);
            int many = 0;
            for (int t = 1; t < towns; t++) {
                many += !isShut(t, shut) && days[0][t] != NONE ? 1 : 0;
            }
            List<Integer> best = null;
            for (List<Integer> row : allRows()) {
                int took = daysOf(row, days);
                if (row.size() == many && took != NONE) {
                    List<Integer> one = new ArrayList<>(row);
                    one.add(0, took);
                    best = best == null || isFirst(one, best) ? one : best;
                }
            }
            return best;
        }

        /** The town, how many days; null: from none. */
        int[] centre() {
            int[] best = null;
            for (int t = 0; t < towns; t++) {
                int furthest = 0;
                for (int u = 0; u < towns; u++) {
                    if (!isShut(u, shut)) {
                        int off = days(t, u, shut);
                        furthest = off == NONE ? 9999 : Math.max(furthest, off);
                        if (off == NONE) {
                            break;
                        }
                    }
                }
                if (!isShut(t, shut) && furthest < 9999 && (best == null || furthest < best[1])) {
                    best = new int[] {t, furthest};
                }
            }
            return best;
        }

        /** Years, coins, four numbers of letters, by all rows. */
        int[] hold(int owed, int means) {
            int[] best = null;
            for (int row = 0; row < 10000; row++) {
                int[] n = {row / 1000, row / 100 % 10, row / 10 % 10, row % 10};
                int years = 0;
                int coins = 0;
                boolean there = true;
                for (int l = 0; l < 4; l++) {
                    if (l < letters.size()) {
                        years += n[l] * letters.get(l)[0];
                        coins += n[l] * letters.get(l)[1];
                    } else {
                        there &= n[l] == 0;
                    }
                }
                years = Math.min(years, owed);
                if (there && coins <= means && (best == null || years > best[0] || years == best[0] && coins < best[1])) {
                    best = new int[] {years, coins, n[0], n[1], n[2], n[3]};
                }
            }
            return best;
        }

        /** The price, how much; kind NONE: all. */
        int[] priced(int years, int kind) {
            int[] best = {0, 0};
            for (int price = 0; price <= 99; price++) {
                int coins = 0;
                for (Buyer one : buyers) {
                    coins += (kind == NONE || one.kind == kind) && one.takes(years, price) ? price : 0;
                }
                best = coins > best[1] ? new int[] {price, coins} : best;
            }
            return best;
        }
    }

    /** A land on its way through a season. */
    static final class Walk {
        final Land land;
        int day;
        int town;
        int shut;
        int sold;
        int bank;
        int ruler;
        int church;
        long x;
        final List<Buyer> buyers = new ArrayList<>();

        Walk(Land land) {
            this.land = land;
            shut = land.shut;
            for (Buyer one : land.buyers) {
                buyers.add(one.copy());
            }
        }

        boolean act(String deed, int... n) {
            switch (deed) {
                case "go":
                    if (n[0] >= land.towns || land.road[town][n[0]] == 0 || (shut >> n[0] & 1) == 1
                        || day + land.road[town][n[0]] > 99) {
                        return false;
                    }
                    day += land.road[town][n[0]];
                    town = n[0];
                    return true;
                case "sell": return n[0] < buyers.size() && n[1] < land.letters.size() && sell(buyers.get(n[0]), land.letters.get(n[1]));
                case "sin":
                    if (n[0] >= buyers.size()) {
                        return false;
                    }
                    buyers.get(n[0]).owed = Math.min(99, buyers.get(n[0]).owed + n[1]);
                    return true;
                case "shut":
                case "open":
                    if (n[0] >= land.towns || (shut >> n[0] & 1) == (deed.equals("shut") ? 1 : 0)) {
                        return false;
                    }
                    shut = deed.equals("shut") ? shut | 1 << n[0] : shut & ~(1 << n[0]);
                    return true;
                default:
                    for (Buyer one : buyers) {
                        if (deed.equals("doubt") || one.bought > 0) {
                            one.fear = Math.max(0, one.fear - 1);
                        }
                        if (deed.equals("jubilee")) {
                            one.owed = Math.min(99, one.owed + one.bought);
                            one.bought = 0;
                        }
                    }
                    return true;
            }
        }

        private boolean sell(Buyer one, int[] letter) {
            if (one.town != town || (shut >> town & 1) == 1 || !one.takes(letter[0], letter[1])) {
                return false;
            }
            one.means -= letter[1];
            one.paid += letter[1];
            one.owed = one.kind == 1 ? one.owed - letter[0] : Math.max(0, one.owed - letter[0]);
            one.bought += letter[0];
            sold++;
            bank += letter[1] * land.bank / 10;
            ruler += letter[1] * land.ruler / 10;
            church += letter[1] - letter[1] * land.bank / 10 - letter[1] * land.ruler / 10;
            return true;
        }

        int draw(int below) {
            x = (x * 1103515245L + 12345L) & 0xffffffffL;
            return (int) (x / 65536 % below);
        }

        void drawAll(int seed, int n) {
            x = seed & 0xffffffffL;
            for (int i = 0; i < n; i++) {
                int which = draw(8);
                if (which == 0) {
                    act("go", draw(land.towns));
                } else if (which == 6) {
                    act("doubt");
                } else if (which == 7) {
                    act("jubilee");
                } else if (!buyers.isEmpty()) {
                    int b = draw(buyers.size());
                    if (which == 5) {
                        act("sin", b, 1 + draw(9));
                    } else if (!land.letters.isEmpty()) {
                        act("sell", b, draw(land.letters.size()));
                    }
                }
            }
        }

        int show(int what) {
            int b = what % 10;
            if (what >= 10 && what < 50) {
                if (b >= buyers.size()) {
                    return -1000;
                }
                Buyer one = buyers.get(b);
                return new int[] {0, one.owed, one.means, one.fear, one.bought}[what / 10];
            }
            int[] plain = {day, town, shut, sold, bank, ruler, church};
            return what >= 0 && what < plain.length ? plain[what] : -1000;
        }
    }

    /** The states of a season in a land, from behind no deed to behind all up to stop. */
    static List<Walk> season(Land land, Text text) {
        List<Walk> states = new ArrayList<>();
        for (int n = 0; n <= text.words.size(); n++) {
            Walk walk = new Walk(land);
            boolean could = true;
            for (int k = 0; k < n && could; k++) {
                could = walk.act(text.words.get(k), text.numbers.get(k));
            }
            if (!could) {
                break;
            }
            states.add(walk);
        }
        return states;
    }

    /** Missing (above 0) or over (below) of each count, 0 of others. */
    static int[] gaps(Text ledger) {
        int[] gaps = new int[ledger.words.size()];
        for (int k = 0; k < gaps.length; k++) {
            if (ledger.words.get(k).equals("count")) {
                int due = 0;
                int i = k - 1;
                while (i >= 0 && !ledger.words.get(i).equals("count")) {
                    int n = ledger.numbers.get(i)[0];
                    due += ledger.words.get(i).equals("in") ? n : ledger.words.get(i).equals("out") ? -n : 0;
                    i--;
                }
                due += i >= 0 ? ledger.numbers.get(i)[0] : 0;
                gaps[k] = due - ledger.numbers.get(k)[0];
            }
        }
        return gaps;
    }

    static List<Integer> fitting(Text ledger) {
        int[] gaps = gaps(ledger);
        List<Integer> sets = new ArrayList<>();
        for (int set = 0; set < 64; set++) {
            boolean fits = true;
            for (int k = 0; k < gaps.length; k++) {
                if (ledger.words.get(k).equals("count")) {
                    boolean opened = false;
                    for (int i = k - 1; i >= 0 && !ledger.words.get(i).equals("count"); i--) {
                        opened |= ledger.words.get(i).equals("key") && (set >> ledger.numbers.get(i)[0] & 1) == 1;
                    }
                    fits &= opened == gaps[k] > 0;
                }
            }
            if (fits) {
                sets.add(set);
            }
        }
        return sets;
    }

    static final class Bargain {
        int parties = 2;
        int names;
        final int[] worth = new int[16];

        Bargain(Text text) {
            for (int i = 0; i < text.words.size(); i++) {
                int[] n = text.numbers.get(i);
                if (text.words.get(i).equals("parties")) {
                    parties = n[0];
                } else {
                    worth[n[0]] = n[1];
                    names |= n[0];
                }
            }
        }

        /** How many rows, then the first. */
        List<Integer> rows() {
            int all = worth[(1 << parties) - 1];
            int many = 0;
            List<Integer> first = new ArrayList<>();
            for (int a = 0; a <= all; a++) {
                for (int b = 0; b <= (parties > 1 ? all - a : 0); b++) {
                    for (int c = 0; c <= (parties > 2 ? all - a - b : 0); c++) {
                        int d = all - a - b - c;
                        if ((parties == 4 || d == 0) && stands(new int[] {a, b, c, d})) {
                            if (many == 0) {
                                first.addAll(Arrays.asList(a, b, c, d));
                            }
                            many++;
                        }
                    }
                }
            }
            first.add(0, many);
            return first;
        }

        private boolean stands(int[] row) {
            for (int set = 1; set < 1 << parties; set++) {
                int sum = 0;
                for (int p = 0; p < parties; p++) {
                    sum += (set >> p & 1) * row[p];
                }
                if (sum < worth[set]) {
                    return false;
                }
            }
            return true;
        }

        /** What each brings, over all orders. */
        int[] gains() {
            int[] sums = new int[parties];
            come(0, sums);
            return sums;
        }

        /** Walks every order by itself: how many orders there are from here on. */
        private int come(int here, int[] sums) {
            int orders = here == (1 << parties) - 1 ? 1 : 0;
            for (int p = 0; p < parties; p++) {
                if ((here >> p & 1) == 0) {
                    int on = come(here | 1 << p, sums);
                    sums[p] += on * (worth[here | 1 << p] - worth[here]);
                    orders += on;
                }
            }
            return orders;
        }

        int orders() {
            int product = 1;
            for (int p = 2; p <= parties; p++) {
                product *= p;
            }
            return product;
        }

        int[] even() {
            int[] gains = gains();
            int[] shares = new int[parties];
            int left = worth[(1 << parties) - 1];
            for (int p = 0; p < parties; p++) {
                shares[p] = (int) Math.floor((double) gains[p] / orders());
                left -= shares[p];
            }
            boolean[] had = new boolean[parties];
            for (; left > 0; left--) {
                int most = NONE;
                for (int p = 0; p < parties; p++) {
                    int off = gains[p] - (shares[p] - (had[p] ? 1 : 0)) * orders();
                    if (!had[p] && (most == NONE || off > gains[most] - shares[most] * orders())) {
                        most = p;
                    }
                }
                had[most] = true;
                shares[most]++;
            }
            return shares;
        }
    }
}
