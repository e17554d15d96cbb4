/** Promises 15, 30, 35: months of trust, months of a loan. */
public final class MonthsTest {
    private static final int MAX = Integer.MAX_VALUE;
    private static final int MIN = Integer.MIN_VALUE;

    public static void main(String[] args) {
        shortPlans();
        allRowsOfPlans();
        longPlans();
        within();
        loans();
        Check.exit("MonthsTest");
    }

    private static void shortPlans() {
        YearsForCoin x = new YearsForCoin();
        for (int trust = 0; trust <= 9; trust++) {
            Check.due("no month", x.plan(trust, 0, -1), 0);
            Check.due("no month", x.plan(trust, 0, 0), -1);
            Check.due("one month", x.plan(trust, 1, -1), 3 * trust);
            Check.due("one month", x.plan(trust, 1, 0), trust == 0 ? 0 : 2);
        }
        Check.due("two months", x.plan(2, 2, -1), 9);
        Check.due("two months", x.plan(2, 2, 0), 1);
        Check.due("two months", x.plan(2, 2, 1), 2);
        for (int bad : new int[] {-1, 10, MAX, MIN}) {
            Check.due("another trust", x.plan(bad, 5, -1), -1);
            Check.due("another trust", x.within(bad, 0), -1);
        }
        for (int bad : new int[] {-1, 21, MAX, MIN}) {
            Check.due("another n", x.plan(5, bad, -1), -1);
            Check.due("another n", x.plan(5, bad, 0), -1);
        }
        for (int bad : new int[] {-2, 20, MAX, MIN}) {
            Check.due("another k", x.plan(5, 20, bad), -1);
        }
    }

    private static int coins(int trust, int row, int n) {
        int sum = 0;
        int now = trust;
        int place = (int) Math.round(Math.pow(3, n - 1));
        for (int k = 0; k < n; k++, place /= 3) {
            int deed = row / place % 3;
            sum += deed == 0 ? now : deed == 2 ? 3 * now : 0;
            now = deed == 0 ? Math.max(0, now - 1) : deed == 1 ? Math.min(9, now + 1) : now / 2;
        }
        return sum;
    }

    private static void allRowsOfPlans() {
        YearsForCoin x = new YearsForCoin();
        for (int n = 1; n <= 7; n++) {
            for (int trust = 0; trust <= 9; trust++) {
                int best = 0;
                int rows = (int) Math.round(Math.pow(3, n));
                for (int row = 1; row < rows; row++) {
                    best = coins(trust, row, n) > coins(trust, best, n) ? row : best;
                }
                Check.due("plan " + trust + " " + n, x.plan(trust, n, -1), coins(trust, best, n));
                for (int k = n - 1; k >= 0; k--, best /= 3) {
                    Check.due("plan " + trust + " " + n + " " + k, x.plan(trust, n, k), best % 3);
                }
            }
        }
    }

    /** Of the longest plans the row brings what is said, and no first step brings more. */
    private static void longPlans() {
        YearsForCoin x = new YearsForCoin();
        for (int n = 8; n <= 20; n++) {
            for (int trust = 0; trust <= 9; trust++) {
                int now = trust;
                int sum = 0;
                for (int k = 0; k < n; k++) {
                    int deed = x.plan(trust, n, k);
                    sum += deed == 0 ? now : deed == 2 ? 3 * now : 0;
                    now = deed == 0 ? Math.max(0, now - 1) : deed == 1 ? Math.min(9, now + 1) : now / 2;
                }
                Check.due("row " + trust + " " + n, sum, x.plan(trust, n, -1));
                int sell = trust + x.plan(Math.max(0, trust - 1), n - 1, -1);
                int rest = x.plan(Math.min(9, trust + 1), n - 1, -1);
                int call = 3 * trust + x.plan(trust / 2, n - 1, -1);
                int most = Math.max(sell, Math.max(rest, call));
                Check.due("most " + trust + " " + n, x.plan(trust, n, -1), most);
                Check.due("first " + trust + " " + n, x.plan(trust, n, 0), sell == most ? 0 : rest == most ? 1 : 2);
            }
        }
    }

    private static void within() {
        YearsForCoin x = new YearsForCoin();
        Check.due("nothing asked", x.within(0, 0), 0);
        Check.due("within", x.within(2, 6), 1);
        Check.due("within", x.within(2, 7), 2);
        Check.due("within", x.within(2, 9), 2);
        Check.due("within", x.within(2, 10) > 2, true);
        for (int trust = 0; trust <= 9; trust++) {
            for (int coins = 0; coins <= 999; coins += 7) {
                int n = x.within(trust, coins);
                Check.due("enough", n == -1 || x.plan(trust, n, -1) >= coins, true);
                Check.due("no fewer", n == 0 || x.plan(trust, n == -1 ? 20 : n - 1, -1) < coins, true);
            }
            Check.due("not in 20", x.within(trust, 999), -1);
            int most = x.plan(trust, 20, -1);
            Check.due("all in 20", x.within(trust, most), 20);
            Check.due("more than in 20", x.within(trust, most + 1), -1);
        }
        for (int bad : new int[] {-1, 1000, MAX, MIN}) {
            Check.due("other coins", x.within(5, bad), -1);
        }
    }

    private static void loan(YearsForCoin x, int n, int r, int p, int months, int paid) {
        Check.due("loan " + n + " " + r + " " + p, x.loan(n, r, p, false), months);
        Check.due("paid " + n + " " + r + " " + p, x.loan(n, r, p, true), paid);
    }

    private static void loans() {
        YearsForCoin x = new YearsForCoin();
        loan(x, 0, 0, 0, 0, 0);
        loan(x, 0, 50, 99, 0, 0);
        loan(x, 1, 0, 0, -1, -1);
        loan(x, 50, 20, 30, 3, 67);
        loan(x, 99, 0, 1, 99, 99);
        loan(x, 100, 0, 1, -1, -1);
        loan(x, 999, 0, 99, 11, 999);
        loan(x, 999, 50, 99, -1, -1);
        loan(x, 999, 10, 99, -1, -1);
        // 100 and 50 more, 51 paid: 99; 49 more: 97; 48: 94; 47: 90; 45: 84; 42: 75; 37: 61; 30: 40; 20: 9; 4: 13 paid.
        loan(x, 100, 50, 51, 10, 9 * 51 + 13);
        loan(x, 100, 50, 50, -1, -1);
        loan(x, 9, 10, 9, 1, 9);
        loan(x, 10, 10, 11, 1, 11);
        loan(x, 10, 10, 10, 2, 11);
        for (int bad : new int[] {-1, 1000, MAX, MIN}) {
            loan(x, bad, 0, 99, -1, -1);
        }
        for (int bad : new int[] {-1, 51, MAX, MIN}) {
            loan(x, 9, bad, 9, -1, -1);
        }
        for (int bad : new int[] {-1, 100, MAX, MIN}) {
            loan(x, 9, 1, bad, -1, -1);
        }
    }
}
