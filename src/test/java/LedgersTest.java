/** Promises 16, 17, 33: what is missing, and who may have taken it. */
public final class LedgersTest {
    public static void main(String[] args) {
        counts();
        thieves();
        nothingFits();
        wrongNumbers();
        Check.exit("LedgersTest");
    }

    private static void gap(YearsForCoin x, int k, int missing, int over) {
        Check.due("missing at " + k, x.entry(0, k, 2), missing);
        Check.due("over at " + k, x.entry(0, k, 3), over);
    }

    private static void counts() {
        YearsForCoin x = Check.told(2, "count 0;count 3;in 5;in 4;out 2;count 7;count 7;out 9;count 0;in 3;out 1;count 1;");
        gap(x, 0, 0, 0);
        gap(x, 1, 0, 3);
        gap(x, 5, 3, 0);
        gap(x, 6, 0, 0);
        // Two more are taken out than there are: 0 is 2 more than that leaves.
        gap(x, 8, 0, 2);
        gap(x, 11, 1, 0);
        Check.due("opened", x.opened(0, false), 2);
        Check.due("lost", x.opened(0, true), 4);
        YearsForCoin y = Check.told(2, "in 99;in 99;in 99;count 0;");
        Check.due("lost", y.opened(0, true), 297);
        gap(y, 3, 297, 0);
        YearsForCoin none = Check.told(2, "in 9;key 1;");
        Check.due("no count", none.opened(0, false), 0);
        Check.due("no count", none.opened(0, true), 0);
        gap(none, 0, -1, -1);
        gap(none, 1, -1, -1);
    }

    private static void thieves(String text, int sure, int clear, int... sets) {
        YearsForCoin x = Check.told(2, text);
        Check.due("how many of " + text, x.thieves(0, 0), sets.length);
        Check.due("sure of " + text, x.thieves(0, 1), sure);
        Check.due("clear of " + text, x.thieves(0, 2), clear);
        for (int k = 0; k < sets.length; k++) {
            Check.due("set " + k + " of " + text, x.thieves(0, 10 + k), sets[k]);
        }
        Check.due("no more of " + text, x.thieves(0, 10 + sets.length), -2);
    }

    private static void thieves() {
        int[] all = new int[64];
        for (int set = 0; set < 64; set++) {
            all[set] = set;
        }
        thieves("", 0, 0, all);
        thieves("in 5;key 0;key 1;", 0, 0, all);
        String others = "key 2;key 3;key 4;key 5;count 0;";
        thieves(others + "in 1;key 0;key 1;count 0;", 0, 60, 1, 2, 3);
        thieves(others + "in 1;key 0;count 0;", 1, 60, 1, 3);
        thieves(others + "in 1;key 0;count 0;key 1;count 0;", 1, 62, 1);
        thieves(others + "in 1;key 0;count 2;key 1;key 0;count 2;", 0, 63, 0);
        thieves(others + "key 1;count 1;in 1;key 0;key 1;count 1;", 1, 62, 1);
        // One who opens it several times, and one behind the last count.
        thieves(others + "in 1;key 0;key 0;count 0;key 0;key 1;", 1, 60, 1, 3);
        thieves("in 9;key 0;key 2;count 8;key 2;in 4;count 12;key 4;count 15;out 5;key 5;count 7;", 33, 20, 33, 35, 41, 43);
    }

    private static void nothingFits() {
        thieves("in 1;count 0;", -1, -1);
        thieves("in 1;key 0;count 0;key 0;count 0;", -1, -1);
        thieves("key 0;count 0;in 1;key 0;count 0;", -1, -1);
    }

    private static void wrongNumbers() {
        YearsForCoin x = Check.told(2, "");
        for (int what : new int[] {-1, -2, 3, 9, 74, Integer.MAX_VALUE, Integer.MIN_VALUE}) {
            Check.due("another what", x.thieves(0, what), -2);
        }
        for (int ledger : new int[] {-1, 1, 2, Integer.MAX_VALUE, Integer.MIN_VALUE}) {
            Check.due("no ledger", x.thieves(ledger, 0), -2);
            Check.due("no ledger", x.entry(ledger, -1, 0), -2);
            Check.due("no ledger", x.opened(ledger, false), -1);
            Check.due("no ledger", x.opened(ledger, true), -1);
        }
    }
}
