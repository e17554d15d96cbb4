import java.util.Arrays;

/**
 * Years off for a coin: lands, seasons, ledgers and bargains told as texts, and what follows from them.
 *
 * All rows are made in constructors and used again, so that no call but the first image() of a number makes anything.
 */
public final class YearsForCoin {
    public static final int NONE = -1;

    private static final int NO_SUCH = -2;
    private static final int NO_STATE = -1000;

    private static final int MOST_BYTES = 600;
    private static final int MOST_TOWNS = 6;
    private static final int MOST_BUYERS = 8;
    private static final int MOST_LETTERS = 4;
    private static final int MOST_DEEDS = 40;
    private static final int MOST_ENTRIES = 20;
    private static final int MOST_PARTIES = 4;
    private static final int MOST_SETS = 16;
    private static final int MOST_NUMBERS = 4;
    private static final int MOST_OF_A_SORT = 2;
    private static final int MOST_IMAGES = 3;
    private static final int MOST_TRUST = 9;
    private static final int MOST_MONTHS = 20;
    private static final int MOST_OF_A_LETTER = 9;
    private static final int MOST_OWED = 99;
    private static final int MOST_PRICE_ASKED = 99;
    private static final int MOST_YEARS = 60;
    private static final int MOST_TOUR_DAYS = 40;
    private static final int LAST_DAY = 99;
    private static final int KEY_HOLDERS = 6;

    private static final int SORTS = 4;
    private static final int LANDS = 0;
    private static final int SEASONS = 1;
    private static final int LEDGERS = 2;
    private static final int BARGAINS = 3;

    private static final int KINDS = 4;
    private static final int KNIGHT = 1;
    private static final int WIDOW = 2;
    private static final int DOUBTER = 3;

    private static final int SELL = 0;
    private static final int SIN = 1;
    private static final int GO = 2;
    private static final int SHUT = 3;
    private static final int OPEN = 4;
    private static final int DOUBT = 5;
    private static final int JUBILEE = 6;

    private static final int IN = 0;
    private static final int OUT = 1;
    private static final int COUNT = 2;
    private static final int KEY = 3;

    private final Told told = new Told();
    private final Told[] images = new Told[MOST_IMAGES];
    private final Reader reader = new Reader(told);
    private final Walk walk = new Walk();
    private final Ways ways = new Ways();
    private final Purse purse = new Purse();
    private final Sharing sharing = new Sharing();
    private final Months months = new Months();

    public YearsForCoin() {
    }

    public int feed(int a, int b, int c, int d, int e) {
        if (told.length + 20 > MOST_BYTES) {
            return NONE;
        }
        told.append(a);
        told.append(b);
        told.append(c);
        told.append(d);
        told.append(e);
        return told.length;
    }

    public int end(int n) {
        if (n < 0 || n > told.length) {
            return NONE;
        }
        told.length = n;
        return n;
    }

    public int text(int sort, int at) {
        int number = told.placeFor(sort, at);
        if (number == NO_SUCH) {
            told.takeTape(0, NONE);
            return NO_SUCH;
        }
        reader.readTape(sort);
        told.takeTape(reader.fault, reader.place);
        if (reader.fault != 0) {
            return NONE;
        }
        reader.keepAs(sort, number);
        told.many[sort] = Math.max(told.many[sort], number + 1);
        return number;
    }

    public int fault(int what) {
        switch (what) {
            case 0: return told.fault;
            case 1: return told.place;
            default: return NONE;
        }
    }

    public int land(int land, int what) {
        Land in = told.landAt(land);
        return in == null ? NONE : in.toldOf(what);
    }

    public int deed(int season, int k, int what) {
        Season of = told.seasonAt(season);
        if (of == null) {
            return NO_SUCH;
        }
        if (k == NONE) {
            return what == 0 ? of.deeds : NO_SUCH;
        }
        return of.hasDeed(k) ? of.toldOf(k, what) : NO_SUCH;
    }

    public int stop(int land, int season) {
        Land in = told.landAt(land);
        Season of = told.seasonAt(season);
        return in == null || of == null ? NONE : walk.run(in, of, MOST_DEEDS);
    }

    public int state(int land, int season, int n, int what) {
        Land in = told.landAt(land);
        Season of = told.seasonAt(season);
        if (in == null || of == null || n < 0 || walk.run(in, of, n) < n) {
            return NO_STATE;
        }
        return walk.show(in, what);
    }

    public int takes(int land, int buyer, int years, int price) {
        Land in = told.landAt(land);
        if (in == null || !in.hasBuyer(buyer) || !isOffer(years, price)) {
            return NONE;
        }
        return in.wants(buyer, years, price) ? 1 : 0;
    }

    public int priced(int land, int years, int kind, boolean coins) {
        Land in = told.landAt(land);
        if (in == null || !isOffer(years, 0) || kind < NONE || kind >= KINDS) {
            return NONE;
        }
        int price = in.bestPrice(years, kind);
        return coins ? in.brings(years, kind, price) : price;
    }

    public int days(int land, int from, int to) {
        Land in = told.landAt(land);
        if (in == null || !in.hasTown(from) || !in.hasTown(to)) {
            return NONE;
        }
        ways.measure(in, in.shut);
        int fewest = ways.between(from, to);
        return fewest >= Ways.FAR ? NONE : fewest;
    }

    public int tour(int land, int d, int letter, int k) {
        Land in = told.landAt(land);
        if (in == null || !isTour(in, d, letter)) {
            return NONE;
        }
        int coins = ways.earn(in, in.shut, d, letter);
        if (k == NONE) {
            return coins;
        }
        return k == NO_SUCH ? ways.bestLength : ways.townOfRow(k);
    }

    public int hold(int land, int buyer, int k) {
        Land in = told.landAt(land);
        if (in == null || !in.hasBuyer(buyer)) {
            return NONE;
        }
        purse.choose(in, in.owed[buyer], in.means[buyer]);
        if (k == NONE) {
            return purse.bestYears;
        }
        if (k == NO_SUCH) {
            return purse.bestCoins;
        }
        return in.hasLetter(k) ? purse.bestRow[k] : NONE;
    }

    public int plan(int trust, int n, int k) {
        if (!isTrust(trust) || n < 0 || n > MOST_MONTHS) {
            return NONE;
        }
        return k == NONE ? months.most(n, trust) : months.deedOf(trust, n, k);
    }

    public int entry(int ledger, int k, int what) {
        Ledger of = told.ledgerAt(ledger);
        if (of == null) {
            return NO_SUCH;
        }
        if (k == NONE) {
            return what == 0 ? of.entries : NO_SUCH;
        }
        return of.hasEntry(k) ? of.toldOf(k, what) : NO_SUCH;
    }

    public int thieves(int ledger, int what) {
        Ledger of = told.ledgerAt(ledger);
        if (of == null) {
            return NO_SUCH;
        }
        switch (what) {
            case 0: return of.howManyFit();
            case 1: return of.sure();
            case 2: return of.clear();
            default: return what < 10 ? NO_SUCH : of.fittingSet(what - 10);
        }
    }

    public int bargain(int bargain, int what) {
        Bargain of = told.bargainAt(bargain);
        if (of == null) {
            return NONE;
        }
        if (what == 0) {
            return of.parties;
        }
        return what > 0 && what <= of.everybody() ? of.worthOf(what) : NONE;
    }

    public int rows(int bargain, int k) {
        Bargain of = told.bargainAt(bargain);
        if (of == null) {
            return NONE;
        }
        sharing.standing(of);
        if (k == NONE) {
            return sharing.found;
        }
        return of.hasParty(k) && sharing.found > 0 ? sharing.firstRow[k] : NONE;
    }

    public long fair(int bargain, int party, boolean under) {
        Bargain of = told.bargainAt(bargain);
        if (of == null || !of.hasParty(party)) {
            return NO_STATE;
        }
        int sum = sharing.sumOfGains(of, party);
        int orders = sharing.orders(of);
        int common = Sharing.commonDivisor(sum, orders);
        return under ? orders / common : sum / common;
    }

    public int drawn(int land, int seed, int n, int what) {
        Land in = told.landAt(land);
        if (in == null || n < 0 || n > 60) {
            return NO_STATE;
        }
        walk.drawDeeds(in, seed, n);
        return walk.show(in, what);
    }

    public int border(int land, int d, int letter, boolean coins) {
        Land in = told.landAt(land);
        if (in == null || !isTour(in, d, letter) || in.towns < 2) {
            return NONE;
        }
        int now = ways.earn(in, in.shut, d, letter);
        int least = now + 1;
        int town = NONE;
        for (int t = 1; t < in.towns; t++) {
            int then = ways.earn(in, in.shut | 1 << t, d, letter);
            if (then < least) {
                least = then;
                town = t;
            }
        }
        return coins ? now - least : town;
    }

    public int ranked(int land, int years) {
        Land in = told.landAt(land);
        if (in == null || !isOffer(years, 0)) {
            return NONE;
        }
        int sum = 0;
        for (int kind = 0; kind < KINDS; kind++) {
            sum += in.brings(years, kind, in.bestPrice(years, kind));
        }
        return sum;
    }

    public int sold(int land, int years, int price) {
        Land in = told.landAt(land);
        return in == null || !isOffer(years, price) ? NONE : in.howManyWant(years, NONE, price);
    }

    public int round(int land, int k) {
        Land in = told.landAt(land);
        if (in == null) {
            return NONE;
        }
        int fewest = ways.goRound(in);
        if (fewest >= Ways.FAR) {
            return NONE;
        }
        return k == NONE ? fewest : ways.townOfRow(k);
    }

    public int reach(int land, int d) {
        Land in = told.landAt(land);
        if (in == null || d < 0 || d > 99) {
            return NONE;
        }
        ways.measure(in, in.shut);
        return ways.townsWithin(d);
    }

    public int centre(int land, boolean days) {
        Land in = told.landAt(land);
        if (in == null) {
            return NONE;
        }
        ways.measure(in, in.shut);
        int town = ways.middle(in);
        return days && town != NONE ? ways.furthestFrom(in, town) : town;
    }

    public int until(int land, int buyer, int letter) {
        Land in = told.landAt(land);
        if (in == null || !in.hasBuyer(buyer) || !in.hasLetter(letter)) {
            return NONE;
        }
        return in.doubtsUntil(buyer, letter);
    }

    public int enough(int land, int buyer) {
        Land in = told.landAt(land);
        if (in == null || !in.hasBuyer(buyer)) {
            return NONE;
        }
        purse.choose(in, in.owed[buyer], Purse.NO_BOUND);
        return purse.bestYears < in.owed[buyer] ? NONE : purse.bestCoins;
    }

    public int loan(int n, int r, int p, boolean paid) {
        if (n < 0 || n > 999 || r < 0 || r > 50 || p < 0 || p > 99) {
            return NONE;
        }
        int owed = n;
        int sum = 0;
        int month = 0;
        for (; owed > 0 && month < 99; month++) {
            int more = owed * r / 100;
            if (more >= p) {
                // From here on it never grows less; going on would only leave the range of int.
                return NONE;
            }
            int payment = Math.min(p, owed + more);
            owed += more - payment;
            sum += payment;
        }
        if (owed > 0) {
            return NONE;
        }
        return paid ? sum : month;
    }

    public int power(int bargain, int what) {
        Bargain of = told.bargainAt(bargain);
        if (of == null) {
            return NONE;
        }
        switch (what) {
            case 0: return sharing.needed(of);
            case 1: return sharing.idle(of);
            default: return what >= 10 && of.hasParty(what - 10) ? sharing.swings(of, what - 10) : NONE;
        }
    }

    public int after(int land, int season, int what) {
        Land in = told.landAt(land);
        Season of = told.seasonAt(season);
        if (in == null || of == null) {
            return NO_SUCH;
        }
        int last = walk.run(in, of, MOST_DEEDS);
        switch (what) {
            case 0: return walk.payer(in);
            case 1: return walk.halfWay(in, of, last);
            case 2: return walk.buyersAhead(in);
            default: return NO_SUCH;
        }
    }

    public int opened(int ledger, boolean lost) {
        Ledger of = told.ledgerAt(ledger);
        return of == null ? NONE : of.losses(lost);
    }

    public int poorer(int land) {
        Land in = told.landAt(land);
        return in == null ? NONE : in.poorerLetters();
    }

    public int within(int trust, int coins) {
        if (!isTrust(trust) || coins < 0 || coins > 999) {
            return NONE;
        }
        for (int n = 0; n <= MOST_MONTHS; n++) {
            if (months.most(n, trust) >= coins) {
                return n;
            }
        }
        return NONE;
    }

    public int even(int bargain, int party) {
        Bargain of = told.bargainAt(bargain);
        return of == null || !of.hasParty(party) ? NO_STATE : sharing.evenShare(of, party);
    }

    public int count(int sort) {
        return sort < 0 || sort >= SORTS ? NO_SUCH : told.many[sort];
    }

    public boolean image(int k) {
        if (k < 0 || k >= MOST_IMAGES) {
            return false;
        }
        if (images[k] == null) {
            images[k] = new Told();
        }
        images[k].become(told);
        return true;
    }

    public boolean again(int k) {
        if (k < 0 || k >= MOST_IMAGES || images[k] == null) {
            return false;
        }
        told.become(images[k]);
        return true;
    }

    private static boolean isOffer(int years, int price) {
        return years >= 1 && years <= MOST_YEARS && price >= 0 && price <= MOST_PRICE_ASKED;
    }

    private static boolean isTour(Land in, int d, int letter) {
        return d >= 0 && d <= MOST_TOUR_DAYS && in.hasLetter(letter);
    }

    private static boolean isTrust(int trust) {
        return trust >= 0 && trust <= MOST_TRUST;
    }

    /** A land as told. */
    private static final class Land {
        int towns = 3;
        int bank;
        int ruler;
        int shut;
        int buyers;
        int letters;
        final int[] kind = new int[MOST_BUYERS];
        final int[] town = new int[MOST_BUYERS];
        final int[] owed = new int[MOST_BUYERS];
        final int[] means = new int[MOST_BUYERS];
        final int[] fear = new int[MOST_BUYERS];
        final int[] years = new int[MOST_LETTERS];
        final int[] price = new int[MOST_LETTERS];
        final int[] roads = new int[MOST_TOWNS * MOST_TOWNS];

        void forget() {
            towns = 3;
            bank = 0;
            ruler = 0;
            shut = 0;
            buyers = 0;
            letters = 0;
            Arrays.fill(roads, 0);
        }

        void become(Land other) {
            towns = other.towns;
            bank = other.bank;
            ruler = other.ruler;
            shut = other.shut;
            buyers = other.buyers;
            letters = other.letters;
            System.arraycopy(other.kind, 0, kind, 0, MOST_BUYERS);
            System.arraycopy(other.town, 0, town, 0, MOST_BUYERS);
            System.arraycopy(other.owed, 0, owed, 0, MOST_BUYERS);
            System.arraycopy(other.means, 0, means, 0, MOST_BUYERS);
            System.arraycopy(other.fear, 0, fear, 0, MOST_BUYERS);
            System.arraycopy(other.years, 0, years, 0, MOST_LETTERS);
            System.arraycopy(other.price, 0, price, 0, MOST_LETTERS);
            System.arraycopy(other.roads, 0, roads, 0, MOST_TOWNS * MOST_TOWNS);
        }

        /** Numbers: a town, owed, means, fear. */
        void addBuyer(int ofKind, int[] numbers) {
            if (buyers >= MOST_BUYERS || numbers.length < 4) {
                return;
            }
            kind[buyers] = ofKind;
            town[buyers] = numbers[0];
            owed[buyers] = numbers[1];
            means[buyers] = numbers[2];
            fear[buyers] = numbers[3];
            buyers++;
        }

        void addLetter(int ofYears, int atPrice) {
            if (letters >= MOST_LETTERS) {
                return;
            }
            years[letters] = ofYears;
            price[letters] = atPrice;
            letters++;
        }

        /** The towns may be told to be there only later, so these are held against the limit alone. */
        void layRoad(int from, int to, int length) {
            if (from < 0 || from >= MOST_TOWNS || to < 0 || to >= MOST_TOWNS) {
                return;
            }
            roads[from * MOST_TOWNS + to] = length;
            roads[to * MOST_TOWNS + from] = length;
        }

        boolean hasTown(int t) {
            return t >= 0 && t < towns;
        }

        boolean hasBuyer(int b) {
            return b >= 0 && b < buyers;
        }

        boolean hasLetter(int l) {
            return l >= 0 && l < letters;
        }

        int roadBetween(int from, int to) {
            return hasTown(from) && hasTown(to) ? roads[from * MOST_TOWNS + to] : 0;
        }

        int toldOf(int what) {
            if (what >= 100) {
                return toldOfRoad(what - 100);
            }
            if (what >= 60) {
                return toldOfLetter(what / 10, what % 10);
            }
            if (what >= 10) {
                return toldOfBuyer(what / 10, what % 10);
            }
            switch (what) {
                case 0: return towns;
                case 1: return buyers;
                case 2: return letters;
                case 3: return bank;
                case 4: return ruler;
                case 5: return shut;
                default: return NONE;
            }
        }

        private int toldOfRoad(int pair) {
            int from = pair / MOST_TOWNS;
            int to = pair % MOST_TOWNS;
            return hasTown(from) && hasTown(to) ? roadBetween(from, to) : NONE;
        }

        private int toldOfLetter(int tens, int l) {
            if (!hasLetter(l)) {
                return NONE;
            }
            switch (tens) {
                case 6: return years[l];
                case 7: return price[l];
                default: return NONE;
            }
        }

        private int toldOfBuyer(int tens, int b) {
            if (!hasBuyer(b)) {
                return NONE;
            }
            switch (tens) {
                case 1: return kind[b];
                case 2: return town[b];
                case 3: return owed[b];
                case 4: return means[b];
                case 5: return fear[b];
                default: return NONE;
            }
        }

        /** Whether somebody who owes and fears so much would pay a price for years, his means aside. */
        static boolean isWorthIt(int ofKind, int owes, int fears, int ofYears, int atPrice) {
            if (ofKind == KNIGHT) {
                return atPrice <= fears * ofYears;
            }
            int asked = ofKind == DOUBTER ? 2 * atPrice : atPrice;
            int felt = ofKind == WIDOW ? 2 * fears : fears;
            return owes > 0 && asked <= felt * Math.min(ofYears, owes);
        }

        boolean wants(int b, int ofYears, int atPrice) {
            return hasBuyer(b) && atPrice <= means[b] && isWorthIt(kind[b], owed[b], fear[b], ofYears, atPrice);
        }

        /** Of all kinds, if ofKind is NONE. */
        int howManyWant(int ofYears, int ofKind, int atPrice) {
            int many = 0;
            for (int b = 0; b < buyers; b++) {
                if ((ofKind == NONE || kind[b] == ofKind) && wants(b, ofYears, atPrice)) {
                    many++;
                }
            }
            return many;
        }

        int brings(int ofYears, int ofKind, int atPrice) {
            return atPrice * howManyWant(ofYears, ofKind, atPrice);
        }

        int bestPrice(int ofYears, int ofKind) {
            int best = 0;
            int most = 0;
            for (int p = 1; p <= MOST_PRICE_ASKED; p++) {
                int coins = brings(ofYears, ofKind, p);
                if (coins > most) {
                    most = coins;
                    best = p;
                }
            }
            return best;
        }

        /** What is taken for a letter in a town, from all who are there. */
        int salesIn(int t, int l) {
            if (!hasLetter(l)) {
                return 0;
            }
            int coins = 0;
            for (int b = 0; b < buyers; b++) {
                if (town[b] == t && wants(b, years[l], price[l])) {
                    coins += price[l];
                }
            }
            return coins;
        }

        int doubtsUntil(int b, int l) {
            if (!hasBuyer(b) || !hasLetter(l)) {
                return NONE;
            }
            for (int doubts = 0; doubts <= 9; doubts++) {
                int fears = Math.max(0, fear[b] - doubts);
                if (price[l] > means[b] || !isWorthIt(kind[b], owed[b], fears, years[l], price[l])) {
                    return doubts;
                }
            }
            return NONE;
        }

        int poorerLetters() {
            int bits = 0;
            for (int l = 0; l < letters; l++) {
                for (int m = 0; m < letters; m++) {
                    boolean unlike = years[m] != years[l] || price[m] != price[l];
                    if (unlike && years[m] >= years[l] && price[m] <= price[l]) {
                        bits |= 1 << l;
                    }
                }
            }
            return bits;
        }
    }

    /** A season as told: its deeds. */
    private static final class Season {
        int deeds;
        final int[] what = new int[MOST_DEEDS];
        final int[] first = new int[MOST_DEEDS];
        final int[] second = new int[MOST_DEEDS];

        void become(Season other) {
            deeds = other.deeds;
            System.arraycopy(other.what, 0, what, 0, MOST_DEEDS);
            System.arraycopy(other.first, 0, first, 0, MOST_DEEDS);
            System.arraycopy(other.second, 0, second, 0, MOST_DEEDS);
        }

        void addDeed(int deed, int a, int b) {
            if (deeds >= MOST_DEEDS) {
                return;
            }
            what[deeds] = deed;
            first[deeds] = a;
            second[deeds] = b;
            deeds++;
        }

        boolean hasDeed(int k) {
            return k >= 0 && k < deeds;
        }

        int toldOf(int k, int which) {
            if (!hasDeed(k)) {
                return NO_SUCH;
            }
            switch (which) {
                case 0: return what[k];
                case 1: return first[k];
                case 2: return second[k];
                default: return NO_SUCH;
            }
        }
    }

    /** A ledger as told: its entries, what is missing by them, who may have taken it. */
    private static final class Ledger {
        int entries;
        final int[] what = new int[MOST_ENTRIES];
        final int[] number = new int[MOST_ENTRIES];

        void become(Ledger other) {
            entries = other.entries;
            System.arraycopy(other.what, 0, what, 0, MOST_ENTRIES);
            System.arraycopy(other.number, 0, number, 0, MOST_ENTRIES);
        }

        void addEntry(int entry, int ofNumber) {
            if (entries >= MOST_ENTRIES) {
                return;
            }
            what[entries] = entry;
            number[entries] = ofNumber;
            entries++;
        }

        boolean hasEntry(int k) {
            return k >= 0 && k < entries;
        }

        int toldOf(int k, int which) {
            if (!hasEntry(k) || which < 0 || which > 3) {
                return NO_SUCH;
            }
            if (which == 0) {
                return what[k];
            }
            if (which == 1) {
                return number[k];
            }
            if (what[k] != COUNT) {
                return NONE;
            }
            int gap = missingAt(k);
            return Math.max(0, which == 2 ? gap : -gap);
        }

        /** How many fewer a count found than there should be; below 0: how many more. */
        private int missingAt(int k) {
            int due = 0;
            for (int i = 0; i < k && i < entries; i++) {
                switch (what[i]) {
                    case IN: due += number[i]; break;
                    case OUT: due -= number[i]; break;
                    case COUNT: due = number[i]; break;
                    default: break;
                }
            }
            return hasEntry(k) ? due - number[k] : 0;
        }

        private boolean fits(int thieves) {
            int due = 0;
            int openers = 0;
            for (int i = 0; i < entries; i++) {
                switch (what[i]) {
                    case IN: due += number[i]; break;
                    case OUT: due -= number[i]; break;
                    case KEY: openers |= 1 << number[i]; break;
                    default:
                        boolean missing = due > number[i];
                        boolean could = (thieves & openers) != 0;
                        if (missing != could) {
                            return false;
                        }
                        due = number[i];
                        openers = 0;
                        break;
                }
            }
            return true;
        }

        int howManyFit() {
            int many = 0;
            for (int set = 0; set < 1 << KEY_HOLDERS; set++) {
                if (fits(set)) {
                    many++;
                }
            }
            return many;
        }

        int fittingSet(int k) {
            int many = 0;
            for (int set = 0; set < 1 << KEY_HOLDERS; set++) {
                if (fits(set)) {
                    if (many == k) {
                        return set;
                    }
                    many++;
                }
            }
            return NO_SUCH;
        }

        int sure() {
            int inAll = NONE;
            for (int set = 0; set < 1 << KEY_HOLDERS; set++) {
                if (fits(set)) {
                    inAll = inAll == NONE ? set : inAll & set;
                }
            }
            return inAll;
        }

        int clear() {
            int inAny = NONE;
            for (int set = 0; set < 1 << KEY_HOLDERS; set++) {
                if (fits(set)) {
                    inAny = inAny == NONE ? set : inAny | set;
                }
            }
            return inAny == NONE ? NONE : (1 << KEY_HOLDERS) - 1 - inAny;
        }

        int losses(boolean coins) {
            int sum = 0;
            for (int i = 0; i < entries; i++) {
                int gap = what[i] == COUNT ? missingAt(i) : 0;
                if (gap > 0) {
                    sum += coins ? gap : 1;
                }
            }
            return sum;
        }
    }

    /** A bargain as told: how many parties, what each set of them is worth. */
    private static final class Bargain {
        int parties = 2;
        final int[] worth = new int[MOST_SETS];

        void forget() {
            parties = 2;
            Arrays.fill(worth, 0);
        }

        void become(Bargain other) {
            parties = other.parties;
            System.arraycopy(other.worth, 0, worth, 0, MOST_SETS);
        }

        void setWorth(int set, int much) {
            if (set >= 0 && set < MOST_SETS) {
                worth[set] = much;
            }
        }

        int worthOf(int set) {
            return set >= 0 && set < MOST_SETS ? worth[set] : 0;
        }

        int everybody() {
            return (1 << parties) - 1;
        }

        boolean hasParty(int p) {
            return p >= 0 && p < parties;
        }

        int gain(int set, int party) {
            return worthOf(set | 1 << party) - worthOf(set);
        }
    }

    /** All that is told: the tape, the fault, the texts taken so far. */
    private static final class Told {
        final byte[] tape = new byte[MOST_BYTES];
        int length;
        int fault;
        int place = NONE;
        final int[] many = new int[SORTS];
        final Land[] lands = new Land[MOST_OF_A_SORT];
        final Season[] seasons = new Season[MOST_OF_A_SORT];
        final Ledger[] ledgers = new Ledger[MOST_OF_A_SORT];
        final Bargain[] bargains = new Bargain[MOST_OF_A_SORT];

        Told() {
            for (int i = 0; i < MOST_OF_A_SORT; i++) {
                lands[i] = new Land();
                seasons[i] = new Season();
                ledgers[i] = new Ledger();
                bargains[i] = new Bargain();
            }
        }

        void become(Told other) {
            System.arraycopy(other.tape, 0, tape, 0, MOST_BYTES);
            length = other.length;
            fault = other.fault;
            place = other.place;
            System.arraycopy(other.many, 0, many, 0, SORTS);
            for (int i = 0; i < MOST_OF_A_SORT; i++) {
                lands[i].become(other.lands[i]);
                seasons[i].become(other.seasons[i]);
                ledgers[i].become(other.ledgers[i]);
                bargains[i].become(other.bargains[i]);
            }
        }

        void append(int four) {
            for (int shift = 24; shift >= 0 && length < MOST_BYTES; shift -= 8) {
                tape[length] = (byte) (four >> shift);
                length++;
            }
        }

        /** Every text() takes the tape, even one that does not read it. */
        void takeTape(int newFault, int newPlace) {
            length = 0;
            fault = newFault;
            place = newPlace;
        }

        /** The number that a text of a sort would have, NO_SUCH if none may be told there. */
        int placeFor(int sort, int at) {
            if (sort < 0 || sort >= SORTS) {
                return NO_SUCH;
            }
            int number = at == NONE ? many[sort] : at;
            int most = at == NONE ? MOST_OF_A_SORT : many[sort];
            return number >= 0 && number < most ? number : NO_SUCH;
        }

        private boolean has(int sort, int k) {
            return k >= 0 && k < many[sort] && k < MOST_OF_A_SORT;
        }

        Land landAt(int k) {
            return has(LANDS, k) ? lands[k] : null;
        }

        Season seasonAt(int k) {
            return has(SEASONS, k) ? seasons[k] : null;
        }

        Ledger ledgerAt(int k) {
            return has(LEDGERS, k) ? ledgers[k] : null;
        }

        Bargain bargainAt(int k) {
            return has(BARGAINS, k) ? bargains[k] : null;
        }
    }

    /** Reads the tape as a text of a sort into drafts of its own, so that a fault leaves all as it was. */
    private static final class Reader {
        private static final int END = 0;
        private static final int WORD = 1;
        private static final int NUMBER = 2;
        private static final int SEMICOLON = 3;
        private static final int ODD = 4;

        private static final int ROAD = 4;
        private static final int LETTER = 5;
        private static final int TOWNS = 6;
        private static final int SHUT_TOWN = 7;
        private static final int BANK = 8;
        private static final int FIRST_DEED = 10;
        private static final int FIRST_ENTRY = 17;
        private static final int PARTIES = 21;

        /** Of each sort the first of its words; words are numbered through all sorts, see wordOf. */
        private static final int[] FIRST_WORD = {0, 10, 17, 21, 23};
        private static final int[] NUMBERS_BEHIND = {4, 4, 4, 4, 3, 2, 1, 1, 1, 1, 2, 2, 1, 1, 1, 0, 0, 1, 1, 1, 1, 1, 2};
        /** Four of each word: the least and the greatest that each number behind it may be. */
        private static final int[] LEAST = {
            0, 0, 0, 0,  0, 0, 0, 0,  0, 0, 0, 0,  0, 0, 0, 0,  0, 0, 1, 0,  1, 0, 0, 0,
            1, 0, 0, 0,  0, 0, 0, 0,  0, 0, 0, 0,  0, 0, 0, 0,
            0, 0, 0, 0,  0, 1, 0, 0,  0, 0, 0, 0,  0, 0, 0, 0,  0, 0, 0, 0,  0, 0, 0, 0,  0, 0, 0, 0,
            0, 0, 0, 0,  0, 0, 0, 0,  0, 0, 0, 0,  0, 0, 0, 0,
            1, 0, 0, 0,  1, 0, 0, 0};
        private static final int[] GREATEST = {
            5, 99, 99, 9,  5, 99, 99, 9,  5, 99, 99, 9,  5, 99, 99, 9,  5, 5, 9, 0,  60, 60, 0, 0,
            6, 0, 0, 0,  5, 0, 0, 0,  5, 0, 0, 0,  5, 0, 0, 0,
            7, 3, 0, 0,  7, 60, 0, 0,  5, 0, 0, 0,  5, 0, 0, 0,  5, 0, 0, 0,  0, 0, 0, 0,  0, 0, 0, 0,
            99, 0, 0, 0,  99, 0, 0, 0,  99, 0, 0, 0,  5, 0, 0, 0,
            4, 0, 0, 0,  15, 40, 0, 0};

        private final Told source;
        private final Land land = new Land();
        private final Season season = new Season();
        private final Ledger ledger = new Ledger();
        private final Bargain bargain = new Bargain();
        private final int[] numbers = new int[MOST_NUMBERS];
        private int next;
        private int token;
        private int start;
        private int value;
        /** Towns or parties told of, bits. */
        private int named;
        int fault;
        int place;

        Reader(Told source) {
            this.source = source;
        }

        void readTape(int sort) {
            land.forget();
            season.deeds = 0;
            ledger.entries = 0;
            bargain.forget();
            named = 0;
            fault = 0;
            place = NONE;
            next = 0;
            goOn();
            // Every line takes a byte at least, so there are no more lines than bytes.
            for (int line = 0; line <= MOST_BYTES && token != END && fault != 1; line++) {
                readLine(sort);
            }
            if (named >> (sort == LANDS ? land.towns : bargain.parties) != 0) {
                note(4, source.length);
            }
        }

        void keepAs(int sort, int number) {
            if (number < 0 || number >= MOST_OF_A_SORT) {
                return;
            }
            switch (sort) {
                case LANDS: source.lands[number].become(land); break;
                case SEASONS: source.seasons[number].become(season); break;
                case LEDGERS: source.ledgers[number].become(ledger); break;
                default: source.bargains[number].become(bargain); break;
            }
        }

        private void readLine(int sort) {
            int word = token == WORD ? wordRead(sort) : NONE;
            if (word < 0 || word >= NUMBERS_BEHIND.length) {
                refuse();
                return;
            }
            if (isOneTooMany(word)) {
                note(3, start);
            }
            goOn();
            for (int i = 0; i < NUMBERS_BEHIND[word]; i++) {
                if (token != NUMBER) {
                    refuse();
                    return;
                }
                takeNumber(word, i);
            }
            if (token != SEMICOLON) {
                refuse();
                return;
            }
            goOn();
            if (fault == 0) {
                tell(word);
            }
        }

        private void takeNumber(int word, int i) {
            if (i < 0 || i >= MOST_NUMBERS) {
                return;
            }
            int at = word * MOST_NUMBERS + i;
            boolean toItself = word == ROAD && i == 1 && value == numbers[0];
            if (value < LEAST[at] || value > GREATEST[at] || toItself) {
                note(2, start);
            }
            numbers[i] = value;
            goOn();
        }

        private void refuse() {
            fault = 1;
            place = start;
        }

        /** Only the first stays: what is read comes by rising places. */
        private void note(int newFault, int newPlace) {
            if (fault == 0) {
                fault = newFault;
                place = newPlace;
            }
        }

        private boolean isOneTooMany(int word) {
            if (word < KINDS) {
                return land.buyers >= MOST_BUYERS;
            }
            if (word == LETTER) {
                return land.letters >= MOST_LETTERS;
            }
            if (word >= FIRST_DEED && word < FIRST_ENTRY) {
                return season.deeds >= MOST_DEEDS;
            }
            return word >= FIRST_ENTRY && word < PARTIES && ledger.entries >= MOST_ENTRIES;
        }

        private void tell(int word) {
            if (word >= PARTIES) {
                tellBargain(word);
            } else if (word >= FIRST_ENTRY) {
                ledger.addEntry(word - FIRST_ENTRY, numbers[0]);
            } else if (word >= FIRST_DEED) {
                int many = NUMBERS_BEHIND[word];
                season.addDeed(word - FIRST_DEED, many > 0 ? numbers[0] : NONE, many > 1 ? numbers[1] : NONE);
            } else if (word < KINDS) {
                land.addBuyer(word, numbers);
                named |= 1 << numbers[0];
            } else {
                tellLand(word);
            }
        }

        private void tellLand(int word) {
            switch (word) {
                case ROAD:
                    land.layRoad(numbers[0], numbers[1], numbers[2]);
                    named |= 1 << numbers[0] | 1 << numbers[1];
                    break;
                case LETTER: land.addLetter(numbers[0], numbers[1]); break;
                case TOWNS: land.towns = numbers[0]; break;
                case SHUT_TOWN:
                    land.shut |= 1 << numbers[0];
                    named |= 1 << numbers[0];
                    break;
                case BANK: land.bank = numbers[0]; break;
                default: land.ruler = numbers[0]; break;
            }
        }

        private void tellBargain(int word) {
            if (word == PARTIES) {
                bargain.parties = numbers[0];
            } else {
                bargain.setWorth(numbers[0], numbers[1]);
                named |= numbers[0];
            }
        }

        private int wordRead(int sort) {
            if (sort < 0 || sort >= SORTS) {
                return NONE;
            }
            for (int word = FIRST_WORD[sort]; word < FIRST_WORD[sort + 1]; word++) {
                if (isOnTape(wordOf(word))) {
                    return word;
                }
            }
            return NONE;
        }

        private boolean isOnTape(String word) {
            if (word.length() != next - start) {
                return false;
            }
            for (int i = 0; i < word.length(); i++) {
                if (word.charAt(i) != byteAt(start + i)) {
                    return false;
                }
            }
            return true;
        }

        private static String wordOf(int word) {
            switch (word) {
                case 0: return "poor";
                case 1: return "knight";
                case 2: return "widow";
                case 3: return "doubter";
                case 4: return "road";
                case 5: return "letter";
                case 6: return "towns";
                case 7: return "shut";
                case 8: return "bank";
                case 9: return "ruler";
                case 10: return "sell";
                case 11: return "sin";
                case 12: return "go";
                case 13: return "shut";
                case 14: return "open";
                case 15: return "doubt";
                case 16: return "jubilee";
                case 17: return "in";
                case 18: return "out";
                case 19: return "count";
                case 20: return "key";
                case 21: return "parties";
                default: return "worth";
            }
        }

        /** Goes on to the next token, which lies from start to next then. */
        private void goOn() {
            while (next < source.length && (byteAt(next) == 32 || byteAt(next) == 10)) {
                next++;
            }
            start = next;
            value = 0;
            int first = byteAt(next);
            if (next >= source.length) {
                token = END;
            } else if (isLetter(first)) {
                token = WORD;
                while (next < source.length && isLetter(byteAt(next))) {
                    next++;
                }
            } else if (isDigit(first)) {
                while (next < source.length && isDigit(byteAt(next))) {
                    value = value * 10 + byteAt(next) - '0';
                    next++;
                }
                token = next - start <= 2 ? NUMBER : ODD;
            } else {
                token = first == ';' ? SEMICOLON : ODD;
                next++;
            }
        }

        private int byteAt(int at) {
            return at >= 0 && at < source.length && at < MOST_BYTES ? source.tape[at] : 0;
        }

        private static boolean isLetter(int sign) {
            return sign >= 'a' && sign <= 'z';
        }

        private static boolean isDigit(int sign) {
            return sign >= '0' && sign <= '9';
        }
    }

    /** Goes through a season, told or drawn, deed by deed. */
    private static final class Walk {
        private int day;
        private int town;
        private int shut;
        private int sales;
        private int bank;
        private int ruler;
        private int church;
        private int seed;
        private final int[] owed = new int[MOST_BUYERS];
        private final int[] means = new int[MOST_BUYERS];
        private final int[] fear = new int[MOST_BUYERS];
        private final int[] bought = new int[MOST_BUYERS];

        /** Does the first n deeds, or those ahead of the first that can't be: how many it did. */
        int run(Land in, Season season, int n) {
            begin(in);
            for (int k = 0; k < n && k < season.deeds; k++) {
                if (!done(in, season, k)) {
                    return k;
                }
            }
            return Math.min(Math.max(n, 0), season.deeds);
        }

        void drawDeeds(Land in, int bySeed, int n) {
            begin(in);
            seed = bySeed;
            for (int i = 0; i < n; i++) {
                drawDeed(in);
            }
        }

        int show(Land in, int what) {
            if (what >= 10) {
                return showBuyer(in, what / 10, what % 10);
            }
            switch (what) {
                case 0: return day;
                case 1: return town;
                case 2: return shut;
                case 3: return sales;
                case 4: return bank;
                case 5: return ruler;
                case 6: return church;
                default: return NO_STATE;
            }
        }

        private int showBuyer(Land in, int tens, int b) {
            if (!in.hasBuyer(b)) {
                return NO_STATE;
            }
            switch (tens) {
                case 1: return owed[b];
                case 2: return means[b];
                case 3: return fear[b];
                case 4: return bought[b];
                default: return NO_STATE;
            }
        }

        /** Means only ever grow less by paying, so what is gone of them was paid. */
        int payer(Land in) {
            int most = 0;
            int who = NONE;
            for (int b = 0; b < in.buyers; b++) {
                int paid = in.means[b] - means[b];
                if (paid > most) {
                    most = paid;
                    who = b;
                }
            }
            return who;
        }

        int buyersAhead(Land in) {
            int bits = 0;
            for (int b = 0; b < in.buyers; b++) {
                if (owed[b] < 0) {
                    bits |= 1 << b;
                }
            }
            return bits;
        }

        /** To be asked behind the season's first last deeds, which it goes through once more. */
        int halfWay(Land in, Season season, int last) {
            int whole = church;
            begin(in);
            int n = 0;
            while (n < last && 2 * church < whole) {
                done(in, season, n);
                n++;
            }
            return n;
        }

        private void begin(Land in) {
            day = 0;
            town = 0;
            shut = in.shut;
            sales = 0;
            bank = 0;
            ruler = 0;
            church = 0;
            System.arraycopy(in.owed, 0, owed, 0, MOST_BUYERS);
            System.arraycopy(in.means, 0, means, 0, MOST_BUYERS);
            System.arraycopy(in.fear, 0, fear, 0, MOST_BUYERS);
            Arrays.fill(bought, 0);
        }

        private boolean done(Land in, Season season, int k) {
            return season.hasDeed(k) && act(in, season.what[k], season.first[k], season.second[k]);
        }

        /** Does a deed, if it can be: whether it could. */
        private boolean act(Land in, int what, int a, int b) {
            switch (what) {
                case SELL: return sell(in, a, b);
                case SIN: return sin(in, a, b);
                case GO: return go(in, a);
                case SHUT: return turn(in, a, false);
                case OPEN: return turn(in, a, true);
                case DOUBT: return doubt(in);
                case JUBILEE: return jubilee(in);
                default: return false;
            }
        }

        private boolean isShut(int t) {
            return (shut >> t & 1) != 0;
        }

        private boolean sell(Land in, int b, int l) {
            if (!in.hasBuyer(b) || !in.hasLetter(l) || in.town[b] != town || isShut(town)) {
                return false;
            }
            int price = in.price[l];
            int years = in.years[l];
            if (price > means[b] || !Land.isWorthIt(in.kind[b], owed[b], fear[b], years, price)) {
                return false;
            }
            means[b] -= price;
            owed[b] -= years;
            if (in.kind[b] != KNIGHT) {
                owed[b] = Math.max(0, owed[b]);
            }
            bought[b] += years;
            sales++;
            int toBank = price * in.bank / 10;
            int toRuler = price * in.ruler / 10;
            bank += toBank;
            ruler += toRuler;
            church += price - toBank - toRuler;
            return true;
        }

        private boolean sin(Land in, int b, int years) {
            if (!in.hasBuyer(b)) {
                return false;
            }
            owed[b] = Math.min(MOST_OWED, owed[b] + years);
            return true;
        }

        private boolean go(Land in, int to) {
            int length = in.roadBetween(town, to);
            if (length == 0 || isShut(to) || day + length > LAST_DAY) {
                return false;
            }
            day += length;
            town = to;
            return true;
        }

        /** Opens a town that is shut, or shuts one that is open. */
        private boolean turn(Land in, int t, boolean wasShut) {
            if (!in.hasTown(t) || isShut(t) != wasShut) {
                return false;
            }
            shut ^= 1 << t;
            return true;
        }

        private boolean doubt(Land in) {
            for (int b = 0; b < in.buyers; b++) {
                fear[b] = Math.max(0, fear[b] - 1);
            }
            return true;
        }

        private boolean jubilee(Land in) {
            for (int b = 0; b < in.buyers; b++) {
                if (bought[b] > 0) {
                    owed[b] = Math.min(MOST_OWED, owed[b] + bought[b]);
                    bought[b] = 0;
                    fear[b] = Math.max(0, fear[b] - 1);
                }
            }
            return true;
        }

        private void drawDeed(Land in) {
            int which = draw(8);
            switch (which) {
                case 0: go(in, draw(in.towns)); break;
                case 5: drawSin(in); break;
                case 6: doubt(in); break;
                case 7: jubilee(in); break;
                default: drawSale(in); break;
            }
        }

        private void drawSale(Land in) {
            if (in.buyers == 0) {
                return;
            }
            int b = draw(in.buyers);
            if (in.letters == 0) {
                return;
            }
            sell(in, b, draw(in.letters));
        }

        private void drawSin(Land in) {
            if (in.buyers == 0) {
                return;
            }
            int b = draw(in.buyers);
            sin(in, b, 1 + draw(9));
        }

        private int draw(int below) {
            seed = seed * 1103515245 + 12345;
            return below > 0 ? (seed >>> 16) % below : 0;
        }
    }

    /** Days between towns, and rows of towns from town 0 on. */
    private static final class Ways {
        /** More than any row of towns takes: there is no way. */
        static final int FAR = 1000;

        private int towns;
        private final int[] fewest = new int[MOST_TOWNS * MOST_TOWNS];
        private final int[] sales = new int[MOST_TOWNS];
        private final int[] row = new int[MOST_TOWNS];
        private final int[] bestRow = new int[MOST_TOWNS];
        private int bestDays;
        private int bestCoins;
        int bestLength;

        /** A way may begin in a shut town, but not lead to or through one. */
        void measure(Land in, int shut) {
            towns = in.towns;
            for (int from = 0; from < towns; from++) {
                for (int to = 0; to < towns; to++) {
                    int road = (shut >> to & 1) != 0 ? 0 : in.roadBetween(from, to);
                    fewest[from * MOST_TOWNS + to] = from == to ? 0 : road == 0 ? FAR : road;
                }
            }
            for (int by = 0; by < towns; by++) {
                for (int from = 0; from < towns; from++) {
                    for (int to = 0; to < towns; to++) {
                        int length = between(from, by) + between(by, to);
                        if (length < between(from, to)) {
                            fewest[from * MOST_TOWNS + to] = length;
                        }
                    }
                }
            }
        }

        int between(int from, int to) {
            boolean there = from >= 0 && from < towns && to >= 0 && to < towns;
            return there ? fewest[from * MOST_TOWNS + to] : FAR;
        }

        int townOfRow(int k) {
            return k >= 0 && k < bestLength && k < MOST_TOWNS ? bestRow[k] : NONE;
        }

        int townsWithin(int d) {
            int bits = 0;
            for (int t = 0; t < towns; t++) {
                if (between(0, t) <= d) {
                    bits |= 1 << t;
                }
            }
            return bits;
        }

        int furthestFrom(Land in, int town) {
            int furthest = 0;
            for (int t = 0; t < towns; t++) {
                if ((in.shut >> t & 1) == 0) {
                    furthest = Math.max(furthest, between(town, t));
                }
            }
            return furthest;
        }

        int middle(Land in) {
            int best = NONE;
            int least = FAR;
            for (int t = 0; t < towns; t++) {
                int furthest = furthestFrom(in, t);
                if ((in.shut >> t & 1) == 0 && furthest < least) {
                    least = furthest;
                    best = t;
                }
            }
            return best;
        }

        /** The most coins that a letter brings on a tour; the row of towns is kept. */
        int earn(Land in, int shut, int d, int letter) {
            measure(in, shut);
            for (int t = 0; t < towns; t++) {
                sales[t] = (shut >> t & 1) != 0 ? 0 : in.salesIn(t, letter);
            }
            bestCoins = NONE;
            bestLength = 0;
            earnOn(0, 0, 1, d, sales[0]);
            return bestCoins;
        }

        /** Rows come first by numbers, so only a better one takes a row's place. */
        private void earnOn(int length, int at, int gone, int left, int coins) {
            if (coins > bestCoins || coins == bestCoins && length < bestLength) {
                bestCoins = coins;
                keepRow(length);
            }
            if (length >= MOST_TOWNS - 1) {
                return;
            }
            for (int t = 1; t < towns; t++) {
                int stretch = between(at, t);
                if ((gone >> t & 1) == 0 && stretch <= left) {
                    row[length] = t;
                    earnOn(length + 1, t, gone | 1 << t, left - stretch, coins + sales[t]);
                }
            }
        }

        /** The fewest days for all towns that can be come to, FAR if there is no such row; the row is kept. */
        int goRound(Land in) {
            measure(in, in.shut);
            int due = 0;
            for (int t = 1; t < towns; t++) {
                if (between(0, t) < FAR) {
                    due |= 1 << t;
                }
            }
            bestDays = FAR;
            bestLength = 0;
            goRoundOn(0, 0, due, 0);
            return bestDays;
        }

        private void goRoundOn(int length, int at, int due, int days) {
            if (days >= bestDays) {
                return;
            }
            if (due == 0) {
                bestDays = days;
                keepRow(length);
            }
            if (length >= MOST_TOWNS - 1) {
                return;
            }
            for (int t = 1; t < towns; t++) {
                if ((due >> t & 1) != 0) {
                    row[length] = t;
                    goRoundOn(length + 1, t, due & ~(1 << t), days + between(at, t));
                }
            }
        }

        private void keepRow(int length) {
            bestLength = Math.min(length, MOST_TOWNS);
            System.arraycopy(row, 0, bestRow, 0, bestLength);
        }
    }

    /** Which letters to hold. */
    private static final class Purse {
        /** More coins than all letters together cost. */
        static final int NO_BOUND = 1000000;

        private final int[] row = new int[MOST_LETTERS];
        final int[] bestRow = new int[MOST_LETTERS];
        int bestYears;
        int bestCoins;

        void choose(Land in, int owed, int means) {
            bestYears = NONE;
            bestCoins = 0;
            Arrays.fill(row, 0);
            chooseOn(in, 0, owed, means, 0, 0);
        }

        /** Rows come first by numbers, and a letter more than what is owed asks for never makes one better. */
        private void chooseOn(Land in, int letter, int owed, int means, int years, int coins) {
            if (bestYears == owed && coins >= bestCoins) {
                return;
            }
            if (years >= owed || !in.hasLetter(letter)) {
                keepIfBetter(Math.min(years, owed), coins);
                return;
            }
            for (int n = 0; n <= MOST_OF_A_LETTER; n++) {
                int more = years + n * in.years[letter];
                int dearer = coins + n * in.price[letter];
                if (dearer > means) {
                    break;
                }
                row[letter] = n;
                chooseOn(in, letter + 1, owed, means, more, dearer);
                if (more >= owed) {
                    break;
                }
            }
            row[letter] = 0;
        }

        private void keepIfBetter(int years, int coins) {
            if (years > bestYears || years == bestYears && coins < bestCoins) {
                bestYears = years;
                bestCoins = coins;
                System.arraycopy(row, 0, bestRow, 0, MOST_LETTERS);
            }
        }
    }

    /** What comes of a bargain. */
    private static final class Sharing {
        private static final int[] FACTORIAL = {1, 1, 2, 6, 24};

        int found;
        private final int[] row = new int[MOST_PARTIES];
        final int[] firstRow = new int[MOST_PARTIES];
        /** What each set of those who have their share has together. */
        private final int[] sums = new int[MOST_SETS];

        void standing(Bargain of) {
            found = 0;
            sums[0] = 0;
            int all = of.worthOf(of.everybody());
            if (of.parties == 1) {
                row[0] = all;
                countRows(1);
            } else {
                deal(of, 0, all);
            }
        }

        /** Gives party p each share that leaves no set of parties up to p with less than it is worth. */
        private void deal(Bargain of, int p, int left) {
            if (!of.hasParty(p + 1)) {
                return;
            }
            int least = leastShare(of, p, 1 << p);
            if (p + 2 == of.parties) {
                dealToLastTwo(of, p, least, left);
                return;
            }
            for (int share = least; share <= left; share++) {
                row[p] = share;
                giveShare(p, share);
                deal(of, p + 1, left - share);
            }
        }

        /** What the one has more, the other has less, so the rows that stand are one stretch of the one's shares. */
        private void dealToLastTwo(Bargain of, int p, int least, int left) {
            int last = p + 1;
            int most = left - leastShare(of, p, 1 << last);
            boolean together = leastShare(of, p, 1 << p | 1 << last) <= left;
            if (together && least <= most) {
                row[p] = least;
                row[last] = left - least;
                countRows(most - least + 1);
            }
        }

        /** What others must have at least, so that no set of them with parties below p has less than it is worth. */
        private int leastShare(Bargain of, int p, int others) {
            int least = 0;
            for (int set = 0; set < 1 << p && set < MOST_SETS; set++) {
                least = Math.max(least, of.worthOf(set | others) - sums[set]);
            }
            return least;
        }

        private void giveShare(int p, int share) {
            int bit = 1 << p;
            for (int set = 0; set < bit && bit + set < MOST_SETS; set++) {
                sums[bit + set] = sums[set] + share;
            }
        }

        private void countRows(int more) {
            if (found == 0) {
                System.arraycopy(row, 0, firstRow, 0, MOST_PARTIES);
            }
            found += more;
        }

        int orders(Bargain of) {
            return factorial(of.parties);
        }

        /** What a party brings more, over all orders in which they may come. */
        int sumOfGains(Bargain of, int party) {
            int sum = 0;
            for (int set = 0; set <= of.everybody(); set++) {
                if ((set >> party & 1) == 0) {
                    int ahead = Integer.bitCount(set);
                    sum += factorial(ahead) * factorial(of.parties - 1 - ahead) * of.gain(set, party);
                }
            }
            return sum;
        }

        private static int factorial(int n) {
            return n >= 0 && n < FACTORIAL.length ? FACTORIAL[n] : 1;
        }

        /** Never 0, if one of both is not. */
        static int commonDivisor(int a, int b) {
            int x = Math.abs(a);
            int y = Math.abs(b);
            for (int step = 0; step < 64 && y != 0; step++) {
                int rest = x % y;
                x = y;
                y = rest;
            }
            return Math.max(1, x);
        }

        int evenShare(Bargain of, int party) {
            int orders = orders(of);
            int left = of.worthOf(of.everybody());
            int aheadOfIt = 0;
            int off = Math.floorMod(sumOfGains(of, party), orders);
            for (int p = 0; p < of.parties; p++) {
                int sum = sumOfGains(of, p);
                int offOfOther = Math.floorMod(sum, orders);
                left -= Math.floorDiv(sum, orders);
                if (offOfOther > off || offOfOther == off && p < party) {
                    aheadOfIt++;
                }
            }
            return Math.floorDiv(sumOfGains(of, party), orders) + (aheadOfIt < left ? 1 : 0);
        }

        int needed(Bargain of) {
            int bits = 0;
            for (int p = 0; p < of.parties; p++) {
                if (isNeeded(of, p)) {
                    bits |= 1 << p;
                }
            }
            return bits;
        }

        private static boolean isNeeded(Bargain of, int party) {
            for (int set = 1; set <= of.everybody(); set++) {
                if ((set >> party & 1) == 0 && of.worthOf(set) != 0) {
                    return false;
                }
            }
            return true;
        }

        int idle(Bargain of) {
            int bits = 0;
            for (int p = 0; p < of.parties; p++) {
                if (isIdle(of, p)) {
                    bits |= 1 << p;
                }
            }
            return bits;
        }

        private static boolean isIdle(Bargain of, int party) {
            for (int set = 0; set <= of.everybody(); set++) {
                if (of.gain(set, party) != 0) {
                    return false;
                }
            }
            return true;
        }

        int swings(Bargain of, int party) {
            int many = 0;
            for (int set = 0; set <= of.everybody(); set++) {
                if (of.gain(set, party) > 0) {
                    many++;
                }
            }
            return many;
        }
    }

    /** The most coins by trust in so many months, worked out once. */
    private static final class Months {
        private static final int SELLS = 0;
        private static final int RESTS = 1;
        private static final int CALLS = 2;

        private final int[] coins = new int[(MOST_MONTHS + 1) * (MOST_TRUST + 1)];

        Months() {
            for (int n = 1; n <= MOST_MONTHS; n++) {
                for (int trust = 0; trust <= MOST_TRUST; trust++) {
                    int best = 0;
                    for (int deed = SELLS; deed <= CALLS; deed++) {
                        best = Math.max(best, mostBy(deed, n, trust));
                    }
                    coins[n * (MOST_TRUST + 1) + trust] = best;
                }
            }
        }

        int most(int n, int trust) {
            boolean there = n >= 0 && n <= MOST_MONTHS && isTrust(trust);
            return there ? coins[n * (MOST_TRUST + 1) + trust] : 0;
        }

        /** What to do in month k of n, by the first row that brings most. */
        int deedOf(int trust, int n, int k) {
            if (k < 0 || k >= n) {
                return NONE;
            }
            int now = trust;
            int deed = NONE;
            for (int month = 0; month <= k; month++) {
                deed = firstBest(n - month, now);
                now = trustAfter(deed, now);
            }
            return deed;
        }

        private int firstBest(int n, int trust) {
            for (int deed = SELLS; deed < CALLS; deed++) {
                if (mostBy(deed, n, trust) == most(n, trust)) {
                    return deed;
                }
            }
            return CALLS;
        }

        private int mostBy(int deed, int n, int trust) {
            int now = deed == SELLS ? trust : deed == CALLS ? 3 * trust : 0;
            return now + most(n - 1, trustAfter(deed, trust));
        }

        private static int trustAfter(int deed, int trust) {
            switch (deed) {
                case SELLS: return Math.max(0, trust - 1);
                case RESTS: return Math.min(MOST_TRUST, trust + 1);
                default: return trust / 2;
            }
        }
    }
}
