/** The edges of what to hold, of letters, plans and loans: terms 3, 5, promises 14, 15, 29, 30, 34, 35, sentence by sentence. */
public final class PurseBoundsTest {
    private static final int MAX = Integer.MAX_VALUE;
    private static final int MIN = Integer.MIN_VALUE;
    private static final int[] NOT_THERE = {-1, -2, 1, 2, 3, MAX, MIN};

    public static void main(String[] args) {
        nineOfEach();
        meansTogether();
        nothingToHold();
        holdOfAFullLand();
        firstRowByLetters();
        noSuchHold();
        enoughAtNine();
        enoughIsMeansAside();
        noSuchEnough();
        poorerByOne();
        poorerOfFew();
        planNumbers();
        planMonths();
        trustAtItsEnds();
        withinNumbers();
        withinTwentyMonths();
        loanNumbers();
        loanMonths();
        loanCutAndLastPayment();
        everyLoan();
        Check.exit("PurseBoundsTest");
    }

    private static void hold(String land, int years, int coins, int... row) {
        YearsForCoin x = Check.told(0, land);
        Check.due("years of " + land, x.hold(0, 0, -1), years);
        Check.due("coins of " + land, x.hold(0, 0, -2), coins);
        for (int l = 0; l < 6; l++) {
            Check.due("letter " + l + " of " + land, x.hold(0, 0, l), l < row.length ? row[l] : -1);
        }
    }

    private static void nineOfEach() {
        Check.sentence("terms 3: HOLD: of each LETTER so many, 0 to 9");
        hold("poor 0 8 99 0;letter 1 1;", 8, 8, 8);
        hold("poor 0 9 99 0;letter 1 1;", 9, 9, 9);
        hold("poor 0 10 99 0;letter 1 1;", 9, 9, 9);
        hold("poor 0 99 99 0;letter 1 0;", 9, 0, 9);
        hold("poor 0 99 99 0;letter 11 0;", 99, 0, 9);
        hold("poor 0 99 99 0;letter 10 0;", 90, 0, 9);
        hold("poor 0 18 99 0;letter 1 1;letter 1 2;", 18, 27, 9, 9);
        hold("poor 0 19 99 0;letter 1 1;letter 1 2;", 18, 27, 9, 9);
    }

    private static void meansTogether() {
        Check.sentence("terms 3: as he can pay with his MEANS together");
        hold("poor 0 9 29 0;letter 3 10;", 6, 20, 2);
        hold("poor 0 9 30 0;letter 3 10;", 9, 30, 3);
        hold("poor 0 9 31 0;letter 3 10;", 9, 30, 3);
        hold("poor 0 9 9 0;letter 3 10;", 0, 0, 0);
        hold("poor 0 99 98 0;letter 1 33;letter 2 33;", 4, 66, 0, 2);
        hold("poor 0 99 99 0;letter 1 33;letter 2 33;", 6, 99, 0, 3);
        hold("poor 0 2 21 0;letter 1 10;letter 1 11;", 2, 20, 2, 0);
        hold("poor 0 99 0 0;letter 1 1;letter 2 0;", 18, 0, 0, 9);
    }

    private static void nothingToHold() {
        Check.sentence("14: the years (k NONE), the coins (k -2), or how many of LETTER k: of nothing");
        hold("poor 0 0 99 9;letter 1 0;letter 1 1;", 0, 0, 0, 0);
        hold("poor 0 99 0 9;letter 60 1;", 0, 0, 0);
        hold("poor 0 99 99 9;", 0, 0);
        hold("knight 0 0 99 9;letter 60 0;", 0, 0, 0);
        hold("poor 0 1 99 9;letter 60 60;", 1, 60, 1);
    }

    private static void holdOfAFullLand() {
        Check.sentence("terms 3: HOLD: so that most of what he OWES is let off, of several for the fewest coins");
        hold("poor 0 99 99 0;letter 1 1;letter 1 1;letter 1 1;letter 1 1;", 36, 36, 9, 9, 9, 9);
        hold("poor 0 36 36 0;letter 1 1;letter 1 1;letter 1 1;letter 1 1;", 36, 36, 9, 9, 9, 9);
        hold("poor 0 36 35 0;letter 1 1;letter 1 1;letter 1 1;letter 1 1;", 35, 35, 8, 9, 9, 9);
        hold("poor 0 99 99 0;letter 60 60;letter 60 60;letter 60 60;letter 60 60;", 60, 60, 0, 0, 0, 1);
        // One year more is more, for sixty coins too.
        hold("poor 0 10 99 0;letter 1 0;letter 10 60;", 10, 60, 0, 1);
        hold("poor 0 10 59 0;letter 1 0;letter 10 60;", 9, 0, 9, 0);
        YearsForCoin x = Check.told(0, "poor 0 1 9 0;".repeat(7) + "poor 0 5 9 0;letter 1 1;");
        Check.due("the eighth", x.hold(0, 7, -1), 5);
    }

    private static void firstRowByLetters() {
        Check.sentence("terms 3: of several .. the first row by LETTERS");
        hold("poor 0 1 9 0;letter 1 1;letter 1 1;letter 1 1;letter 1 1;", 1, 1, 0, 0, 0, 1);
        hold("poor 0 10 10 0;letter 1 1;letter 1 1;letter 1 1;letter 1 1;", 10, 10, 0, 0, 1, 9);
        hold("poor 0 4 4 0;letter 4 4;letter 3 3;letter 1 1;", 4, 4, 0, 0, 4);
        // Years beyond what is owed make no row better.
        hold("poor 0 4 9 0;letter 60 4;letter 4 4;", 4, 4, 0, 1);
        hold("poor 0 4 9 0;letter 4 4;letter 60 4;", 4, 4, 0, 1);
        hold("poor 0 4 9 0;letter 4 0;letter 2 0;", 4, 0, 0, 2);
    }

    private static void noSuchHold() {
        Check.sentence("14: NONE: there is none such (of any)");
        YearsForCoin x = Check.told(0, "poor 0 1 9 0;".repeat(8) + "letter 1 1;".repeat(4));
        for (int buyer : new int[] {MIN, -2, -1, 0, 7, 8, 9, MAX}) {
            boolean there = buyer >= 0 && buyer < 8;
            for (int k : new int[] {MIN, -3, -2, -1, 0, 3, 4, 5, MAX}) {
                int due = k == -1 || k == -2 || k == 3 ? 1 : k == 0 ? 0 : -1;
                Check.due("hold " + buyer + " " + k, x.hold(0, buyer, k), there ? due : -1);
            }
        }
        for (int land : NOT_THERE) {
            Check.due("land " + land, x.hold(land, 0, -1), -1);
            Check.due("land " + land, x.hold(land, 0, 0), -1);
        }
        Check.due("no buyer", Check.told(0, "letter 1 1;").hold(0, 0, -1), -1);
    }

    private static void enough(String land, int due) {
        Check.due("enough in " + land, Check.told(0, land).enough(0, 0), due);
    }

    private static void enoughAtNine() {
        Check.sentence("terms 5: ENOUGH: the fewest coins for which LETTERS, 0 to 9 of each, let him off all; 29: NONE: by none");
        enough("poor 0 9 0 0;letter 1 7;", 63);
        enough("poor 0 10 0 0;letter 1 7;", -1);
        enough("poor 0 99 0 0;letter 11 60;", 540);
        enough("poor 0 99 0 0;letter 10 60;", -1);
        enough("poor 0 90 0 0;letter 10 60;", 540);
        enough("poor 0 99 0 0;letter 10 60;letter 1 1;", 549);
        enough("poor 0 99 0 0;letter 10 60;letter 1 60;", 1080);
        enough("poor 0 99 0 0;letter 3 60;letter 3 60;letter 3 60;letter 3 60;", 1980);
        enough("poor 0 36 0 0;letter 1 60;letter 1 60;letter 1 60;letter 1 60;", 2160);
        enough("poor 0 37 0 0;letter 1 60;letter 1 60;letter 1 60;letter 1 60;", -1);
        enough("poor 0 0 0 0;letter 1 60;", 0);
        enough("poor 0 0 0 0;", 0);
        enough("poor 0 1 0 0;", -1);
        enough("poor 0 1 0 0;letter 60 0;", 0);
    }

    private static void enoughIsMeansAside() {
        Check.sentence("terms 5: ENOUGH .. (his MEANS aside)");
        for (int means : new int[] {0, 1, 59, 60, 61, 99}) {
            enough("poor 0 60 " + means + " 0;letter 60 60;", 60);
            enough("knight 0 99 " + means + " 9;letter 60 60;", 120);
        }
        // More years for fewer coins, and fewer of more.
        enough("poor 0 5 0 0;letter 4 3;letter 5 7;", 6);
        enough("poor 0 5 0 0;letter 4 4;letter 5 7;", 7);
    }

    private static void noSuchEnough() {
        Check.sentence("29: NONE: .. or there is none such (of either)");
        YearsForCoin x = Check.told(0, "poor 0 1 0 0;".repeat(8) + "letter 1 5;");
        for (int buyer : new int[] {MIN, -2, -1, 0, 7, 8, MAX}) {
            Check.due("enough " + buyer, x.enough(0, buyer), buyer >= 0 && buyer < 8 ? 5 : -1);
        }
        for (int land : NOT_THERE) {
            Check.due("land " + land, x.enough(land, 0), -1);
        }
    }

    private static void poorerByOne() {
        Check.sentence("terms 5: POORER: another one of no fewer YEARS and no greater PRICE, one of both unlike");
        for (int years = 4; years <= 6; years++) {
            for (int price = 4; price <= 6; price++) {
                // The first is 5 years for 5.
                boolean first = years >= 5 && price <= 5 && (years != 5 || price != 5);
                boolean second = years <= 5 && price >= 5 && (years != 5 || price != 5);
                int due = (first ? 1 : 0) + (second ? 2 : 0);
                Check.due("5 5 and " + years + " " + price, Check.told(0, "letter 5 5;letter " + years + " " + price + ";").poorer(0), due);
            }
        }
    }

    private static void poorerOfFew() {
        Check.sentence("34: POORER (bits). NONE: there is none such");
        Check.due("no letters", Check.told(0, "").poorer(0), 0);
        Check.due("one letter", Check.told(0, "letter 1 60;").poorer(0), 0);
        Check.due("four alike", Check.told(0, "letter 1 60;".repeat(4)).poorer(0), 0);
        Check.due("all but the last", Check.told(0, "letter 1 60;letter 59 60;letter 60 59;letter 60 0;").poorer(0), 7);
        Check.due("all but the first", Check.told(0, "letter 60 0;letter 60 1;letter 59 0;letter 1 60;").poorer(0), 14);
        YearsForCoin x = Check.told(0, "letter 1 1;letter 1 0;");
        for (int land : NOT_THERE) {
            Check.due("land " + land, x.poorer(land), -1);
        }
    }

    private static void planNumbers() {
        Check.sentence("15: PLAN of TRUST, n. NONE: other numbers; terms 3: TRUST, 0 .. 9, n months, 0 .. 20");
        YearsForCoin x = new YearsForCoin();
        for (int trust : new int[] {MIN, -2, -1, 0, 1, 8, 9, 10, 11, MAX}) {
            for (int n : new int[] {MIN, -2, -1, 0, 1, 19, 20, 21, 22, MAX}) {
                boolean may = trust >= 0 && trust <= 9 && n >= 0 && n <= 20;
                int coins = x.plan(trust, n, -1);
                Check.due("plan " + trust + " " + n, may ? coins >= 0 : coins == -1, true);
                for (int k : new int[] {MIN, -3, -2, 0, n - 1, n, n + 1, 20, 21, MAX}) {
                    int deed = x.plan(trust, n, k);
                    boolean month = may && k >= 0 && k < n;
                    Check.due("plan " + trust + " " + n + " " + k, month ? deed >= 0 && deed <= 2 : deed == -1 || k == -1, true);
                }
            }
        }
    }

    private static void planMonths() {
        Check.sentence("terms 3: PLAN: the most coins; what to do in a month");
        YearsForCoin x = new YearsForCoin();
        for (int trust = 0; trust <= 9; trust++) {
            Check.due("no month", x.plan(trust, 0, -1), 0);
            Check.due("no month", x.plan(trust, 0, 0), -1);
            Check.due("one month", x.plan(trust, 1, -1), 3 * trust);
            Check.due("one month", x.plan(trust, 1, 0), trust == 0 ? 0 : 2);
            Check.due("not a second", x.plan(trust, 1, 1), -1);
        }
    }

    private static void trustAtItsEnds() {
        Check.sentence("terms 3: it is 1 less, 0 at least; 1 more, 9 at most; half of it (cut)");
        YearsForCoin x = new YearsForCoin();
        // Two months by hand: sell and call, rest and call, call and call.
        for (int trust = 0; trust <= 9; trust++) {
            int sell = trust + 3 * Math.max(0, trust - 1);
            int rest = 3 * Math.min(9, trust + 1);
            int call = 3 * trust + 3 * (trust / 2);
            int most = Math.max(sell, Math.max(rest, call));
            Check.due("two months of " + trust, x.plan(trust, 2, -1), most);
            Check.due("first of two of " + trust, x.plan(trust, 2, 0), sell == most ? 0 : rest == most ? 1 : 2);
        }
        long[] coins = new long[10];
        for (int n = 1; n <= 20; n++) {
            long[] more = new long[10];
            for (int trust = 0; trust <= 9; trust++) {
                long sell = trust + coins[trust == 0 ? 0 : trust - 1];
                long rest = coins[trust == 9 ? 9 : trust + 1];
                long call = 3 * trust + coins[trust / 2];
                more[trust] = Math.max(sell, Math.max(rest, call));
                Check.due("plan " + trust + " " + n, x.plan(trust, n, -1), more[trust]);
                Check.due("first of " + trust + " " + n, x.plan(trust, n, 0), sell == more[trust] ? 0 : rest == more[trust] ? 1 : 2);
            }
            coins = more;
        }
        Check.sentence("terms 3: the first row by numbers; 15: what to do in month k");
        for (int n = 1; n <= 20; n++) {
            int now = n % 10;
            for (int k = 0; k < n; k++) {
                int deed = x.plan(n % 10, n, k);
                Check.due("month " + k + " of " + n, deed, x.plan(now, n - k, 0));
                now = deed == 0 ? Math.max(0, now - 1) : deed == 1 ? Math.min(9, now + 1) : now / 2;
            }
        }
    }

    private static void withinNumbers() {
        Check.sentence("35: WITHIN. NONE: .. or other numbers; terms 5: TRUST, 0 .. 9, coins, 0 .. 999");
        YearsForCoin x = new YearsForCoin();
        for (int trust : new int[] {MIN, -1, 0, 9, 10, MAX}) {
            for (int coins : new int[] {MIN, -1, 0, 1000, MAX}) {
                boolean may = trust >= 0 && trust <= 9 && coins == 0;
                Check.due("within " + trust + " " + coins, x.within(trust, coins), may ? 0 : -1);
            }
        }
        Check.due("one coin", x.within(0, 1), 2);
        Check.due("three coins", x.within(0, 3), 2);
        Check.due("four coins", x.within(0, 4), 3);
        Check.due("at one month's most", x.within(9, 27), 1);
        Check.due("one more", x.within(9, 28), 2);
    }

    private static void withinTwentyMonths() {
        Check.sentence("35: WITHIN. NONE: not in 20; terms 5: the fewest months in which a PLAN brings as many or more");
        YearsForCoin x = new YearsForCoin();
        for (int trust = 0; trust <= 9; trust++) {
            for (int n = 0; n <= 20; n++) {
                int most = x.plan(trust, n, -1);
                boolean fewest = n == 0 || x.plan(trust, n - 1, -1) < most;
                Check.due("all of " + n + " months", fewest ? x.within(trust, most) : n, n);
                int next = x.within(trust, most + 1);
                Check.due("one coin more than " + n, n == 20 ? next == -1 : next > n, true);
            }
            Check.due("all coins", x.within(trust, 999), -1);
        }
    }

    private static void loan(int n, int r, int p, int months, int paid) {
        YearsForCoin x = new YearsForCoin();
        String call = "loan " + n + " " + r + " " + p;
        Check.due(call, x.loan(n, r, p, false), months);
        Check.due(call + " paid", x.loan(n, r, p, true), paid);
    }

    private static void loanNumbers() {
        Check.sentence("30: NONE: .. or other numbers; terms 5: n coins, 0 .. 999, a rate r, 0 .. 50, p coins a month, 0 .. 99");
        int[] ns = {MIN, -1, 0, 1, 999, 1000, MAX};
        int[] rs = {MIN, -1, 0, 50, 51, MAX};
        int[] ps = {MIN, -1, 0, 99, 100, MAX};
        for (int n : ns) {
            for (int r : rs) {
                for (int p : ps) {
                    boolean may = n >= 0 && n <= 999 && r >= 0 && r <= 50 && p >= 0 && p <= 99;
                    boolean pays = may && (n == 0 || p == 99 && (n == 1 || r == 0));
                    int months = n == 999 ? 11 : n;
                    loan(n, r, p, pays ? months : -1, pays ? n : -1);
                }
            }
        }
    }

    private static void loanMonths() {
        Check.sentence("30: NONE: not in 99; terms 5: in how many months nothing is owed, 99 at most");
        loan(98, 0, 1, 98, 98);
        loan(99, 0, 1, 99, 99);
        loan(100, 0, 1, -1, -1);
        loan(197, 0, 2, 99, 197);
        loan(198, 0, 2, 99, 198);
        loan(199, 0, 2, -1, -1);
        loan(0, 50, 0, 0, 0);
        loan(1, 50, 0, -1, -1);
        // What comes on top eats up what is paid, or leaves one coin of it.
        loan(100, 1, 1, -1, -1);
        loan(99, 1, 1, 99, 99);
        loan(200, 50, 99, -1, -1);
        loan(198, 50, 99, -1, -1);
        loan(999, 50, 99, -1, -1);
    }

    private static void loanCutAndLastPayment() {
        Check.sentence("terms 5: r of a hundred of it (cut), then p is paid, or what is owed, if less");
        // 50 and 10: 30 paid, 30 left; 6 more: 30 paid, 6 left; 1 more: 7 paid.
        loan(50, 20, 30, 3, 67);
        // A rate of 1 has nothing of 99, and 1 of 100.
        loan(99, 1, 99, 1, 99);
        loan(100, 1, 99, 2, 101);
        loan(1, 50, 1, 1, 1);
        loan(2, 50, 2, 2, 3);
        loan(2, 50, 3, 1, 3);
        loan(3, 50, 4, 1, 4);
    }

    private static void everyLoan() {
        Check.sentence("terms 5: LOAN, by numbers that do not wrap around");
        YearsForCoin x = new YearsForCoin();
        for (int n = 0; n <= 999; n += 37) {
            for (int r = 0; r <= 50; r++) {
                for (int p = 0; p <= 99; p += 3) {
                    double owed = n;
                    int month = 0;
                    double paid = 0;
                    while (owed > 0 && month < 99) {
                        owed += Math.floor(owed * r / 100);
                        double now = Math.min(p, owed);
                        owed -= now;
                        paid += now;
                        month++;
                    }
                    Check.due("loan " + n + " " + r + " " + p, x.loan(n, r, p, false), owed > 0 ? -1 : month);
                    Check.due("paid " + n + " " + r + " " + p, x.loan(n, r, p, true), owed > 0 ? -1 : (long) paid);
                }
            }
        }
    }
}
