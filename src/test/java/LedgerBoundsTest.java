/** The edges of ledgers: terms 4, 5, promises 16, 17, 33, sentence by sentence. */
public final class LedgerBoundsTest {
    private static final int MAX = Integer.MAX_VALUE;
    private static final int MIN = Integer.MIN_VALUE;
    private static final int[] NOT_THERE = {-1, -2, 1, 2, 3, MAX, MIN};

    public static void main(String[] args) {
        oneMissingNoneOneOver();
        sinceTheLastCount();
        mostThatCanBeMissing();
        noneOfOthers();
        openedOfNothing();
        openedOfAFullLedger();
        noSuchOpened();
        everySetFits();
        nothingFits();
        oneAtLeastOpened();
        noneIfNoneAreMissing();
        onlySinceTheLastCount();
        everyOpener();
        sureAndClear();
        kthOfSeveral();
        takenOutIsNotMissing();
        thievesOfAFullLedger();
        noSuchThieves();
        Check.exit("LedgerBoundsTest");
    }

    private static void count(String text, int k, int missing, int over) {
        YearsForCoin x = Check.told(2, text);
        Check.due("missing at " + k + " of " + text, x.entry(0, k, 2), missing);
        Check.due("over at " + k + " of " + text, x.entry(0, k, 3), over);
    }

    private static void oneMissingNoneOneOver() {
        Check.sentence("terms 4: MISSING are as many as are less than at the last count .. by in and out since then (.. more: OVER); 16: 0: none");
        for (int found = 0; found <= 99; found++) {
            count("in 50;count " + found + ";", 1, Math.max(0, 50 - found), Math.max(0, found - 50));
            count("count 50;count " + found + ";", 1, Math.max(0, 50 - found), Math.max(0, found - 50));
            count("in 99;out 49;count " + found + ";", 2, Math.max(0, 50 - found), Math.max(0, found - 50));
        }
    }

    private static void sinceTheLastCount() {
        Check.sentence("terms 4: the chest is empty at first; .. than at the last count (or at the beginning)");
        count("count 0;", 0, 0, 0);
        count("count 1;", 0, 0, 1);
        count("count 99;", 0, 0, 99);
        count("in 9;count 4;count 4;", 2, 0, 0);
        count("in 9;count 4;count 3;", 2, 1, 0);
        count("in 9;count 4;count 5;", 2, 0, 1);
        count("count 4;in 9;count 13;", 2, 0, 0);
        count("count 4;in 9;out 13;count 0;", 3, 0, 0);
        // What is told behind a count does not touch it.
        count("in 5;count 5;out 5;", 1, 0, 0);
        count("in 5;key 3;count 5;", 2, 0, 0);
    }

    private static void mostThatCanBeMissing() {
        Check.sentence("terms 1: ENTRIES, at most 20, coins, 0 .. 99; terms 4: fewer are than could be; more: OVER");
        count("in 99;".repeat(19) + "count 0;", 19, 1881, 0);
        count("in 99;".repeat(19) + "count 99;", 19, 1782, 0);
        count("out 99;".repeat(19) + "count 0;", 19, 0, 1881);
        count("out 99;".repeat(19) + "count 99;", 19, 0, 1980);
        count("in 0;".repeat(19) + "count 0;", 19, 0, 0);
        Check.due("lost", Check.told(2, "in 99;".repeat(19) + "count 0;").opened(0, true), 1881);
    }

    private static void noneOfOthers() {
        Check.sentence("16: NONE of others, 2 and 3");
        count("in 5;", 0, -1, -1);
        count("out 5;", 0, -1, -1);
        count("key 5;", 0, -1, -1);
        count("in 5;count 0;in 5;", 0, -1, -1);
        count("in 5;count 0;in 5;", 2, -1, -1);
    }

    private static void opened(String text, int times, int lost) {
        YearsForCoin x = Check.told(2, text);
        Check.due("opened of " + text, x.opened(0, false), times);
        Check.due("lost of " + text, x.opened(0, true), lost);
    }

    private static void openedOfNothing() {
        Check.sentence("terms 5: OPENED: how often a count had anything MISSING; LOST: how much was MISSING in all");
        opened("", 0, 0);
        opened("in 9;", 0, 0);
        opened("count 0;", 0, 0);
        opened("in 9;count 8;", 1, 1);
        opened("in 9;count 9;", 0, 0);
        opened("in 9;count 10;", 0, 0);
        // What is OVER makes up for nothing.
        opened("in 9;count 8;count 20;count 19;", 2, 2);
        opened("key 0;in 9;", 0, 0);
    }

    private static void openedOfAFullLedger() {
        Check.sentence("terms 5: OPENED, LOST, of 20 ENTRIES");
        opened("in 1;count 0;".repeat(10), 10, 10);
        opened("in 99;count 0;".repeat(10), 10, 990);
        opened("count 0;".repeat(20), 0, 0);
        StringBuilder down = new StringBuilder();
        for (int k = 0; k < 20; k++) {
            down.append("count " + (99 - k) + ";");
        }
        opened(down.toString(), 19, 19);
    }

    private static void noSuchOpened() {
        Check.sentence("33: NONE: there is none such");
        YearsForCoin x = Check.told(2, "in 1;count 0;");
        for (int ledger : NOT_THERE) {
            Check.due("ledger " + ledger, x.opened(ledger, false), -1);
            Check.due("ledger " + ledger, x.opened(ledger, true), -1);
        }
        Check.due("the last", x.opened(0, true), 1);
    }

    private static void thieves(String text, int many, int sure, int clear) {
        YearsForCoin x = Check.told(2, text);
        Check.due("how many of " + text, x.thieves(0, 0), many);
        Check.due("sure of " + text, x.thieves(0, 1), sure);
        Check.due("clear of " + text, x.thieves(0, 2), clear);
        Check.due("one beyond the last of " + text, x.thieves(0, 10 + many), -2);
        int before = -1;
        for (int k = 0; k < many; k++) {
            int set = x.thieves(0, 10 + k);
            Check.due("numbers rising of " + text, set > before && set < 64, true);
            Check.due("with the sure of " + text, set & sure, sure);
            Check.due("without the clear of " + text, set & clear, 0);
            before = set;
        }
    }

    private static void everySetFits() {
        Check.sentence("terms 4: Sets of THIEVES (bits of 0 .. 5) FIT: how many; the k-th, numbers rising");
        for (String text : new String[] {"", "in 9;", "key 0;key 5;", "count 0;", "count 9;", "in 1;count 1;key 3;"}) {
            thieves(text, 64, 0, 0);
            YearsForCoin x = Check.told(2, text);
            for (int k = 0; k < 64; k++) {
                Check.due("the k-th", x.thieves(0, 10 + k), k);
            }
            Check.due("no 65th", x.thieves(0, 74), -2);
        }
    }

    private static void nothingFits() {
        Check.sentence("17: SURE, CLEAR (bits; NONE: nothing FITS), 10 + k: the k-th. -2: there is none such");
        for (String text : new String[] {"in 1;count 0;", "in 1;key 0;count 0;key 0;count 0;", "key 0;in 1;count 1;in 1;key 0;count 1;",
            "in 1;key 0;count 0;in 1;count 0;"}) {
            thieves(text, 0, -1, -1);
            Check.due("no first", Check.told(2, text).thieves(0, 10), -2);
            Check.due("no last", Check.told(2, text).thieves(0, 73), -2);
        }
    }

    private static void oneAtLeastOpened() {
        Check.sentence("terms 4: one of them at least opened it since the last count, if any are MISSING");
        thieves("in 1;key 0;count 0;", 32, 1, 0);
        thieves("in 1;key 0;key 1;count 0;", 48, 0, 0);
        thieves("in 1;key 0;key 1;key 2;key 3;key 4;key 5;count 0;", 63, 0, 0);
        thieves("in 1;key 3;key 3;key 3;count 0;", 32, 8, 0);
        thieves("in 99;key 5;count 98;", 32, 32, 0);
    }

    private static void noneIfNoneAreMissing() {
        Check.sentence("terms 4: and none of them, if none are (OVER, too)");
        thieves("in 1;key 0;count 1;", 32, 0, 1);
        thieves("in 1;key 0;count 2;", 32, 0, 1);
        thieves("key 0;key 1;key 2;key 3;key 4;key 5;count 0;", 1, 0, 63);
        thieves("key 0;key 1;key 2;key 3;key 4;key 5;count 99;", 1, 0, 63);
        thieves("key 0;key 1;key 2;key 3;key 4;count 0;", 2, 0, 31);
    }

    private static void onlySinceTheLastCount() {
        Check.sentence("terms 4: opened it since the last count");
        // Who opened it ahead of the count, or behind it, is not asked there.
        thieves("key 1;count 0;in 1;key 0;count 0;", 16, 1, 2);
        thieves("in 1;key 0;count 0;key 1;", 32, 1, 0);
        thieves("in 1;key 0;count 0;count 0;", 32, 1, 0);
        thieves("in 1;key 0;count 0;key 1;count 0;", 16, 1, 2);
        thieves("in 2;key 0;count 1;key 1;count 0;", 16, 3, 0);
    }

    private static void everyOpener() {
        Check.sentence("terms 1: key: who opens the chest, 0 .. 5");
        for (int who = 0; who < 6; who++) {
            thieves("in 1;key " + who + ";count 0;", 32, 1 << who, 0);
            thieves("key " + who + ";count 0;", 32, 0, 1 << who);
        }
    }

    private static void sureAndClear() {
        Check.sentence("terms 4: SURE: who is in all (bits); CLEAR: who is in none");
        String others = "key 1;key 2;key 3;key 4;count 0;";
        thieves(others + "in 1;key 5;count 0;", 2, 32, 30);
        thieves(others + "in 1;key 0;key 5;count 0;", 3, 0, 30);
        thieves(others + "in 1;key 0;key 1;count 0;", 2, 1, 30);
        thieves(others + "in 1;key 5;count 0;key 0;count 0;", 1, 32, 31);
        thieves("in 6;key 0;count 5;key 1;count 4;key 2;count 3;key 3;count 2;key 4;count 1;key 5;count 0;", 1, 63, 0);
    }

    private static void kthOfSeveral() {
        Check.sentence("17: 10 + k: the k-th. -2: there is none such (of either)");
        YearsForCoin x = Check.told(2, "key 1;key 2;key 3;key 4;count 0;in 1;key 0;key 5;count 0;");
        int[] sets = {1, 32, 33};
        for (int k = 0; k < 70; k++) {
            Check.due("the " + k + "-th", x.thieves(0, 10 + k), k < 3 ? sets[k] : -2);
        }
    }

    private static void takenOutIsNotMissing() {
        Check.sentence("terms 4: out: so many coins are told to be .. taken out");
        for (int found = 0; found <= 12; found++) {
            boolean missing = found < 6;
            thieves("in 9;out 3;key 4;count " + found + ";", 32, missing ? 16 : 0, missing ? 0 : 16);
            thieves("count 9;out 3;key 4;count " + found + ";", 32, missing ? 16 : 0, missing ? 0 : 16);
        }
        thieves("out 3;key 4;count 0;", 32, 0, 16);
    }

    private static void thievesOfAFullLedger() {
        Check.sentence("terms 1: ENTRIES, at most 20; terms 4: if for each count");
        thieves("key 0;".repeat(20), 64, 0, 0);
        thieves("count 0;".repeat(20), 64, 0, 0);
        thieves("key 5;".repeat(19) + "count 0;", 32, 0, 32);
        thieves("in 1;key 5;count 0;key 4;count 0;" + "in 1;key 5;count 0;".repeat(5), 16, 32, 16);
        // A ledger in the place of a fuller one has nothing of it.
        YearsForCoin x = Check.told(2, "in 1;key 5;count 0;" + "in 1;count 0;".repeat(8));
        Check.due("nothing fits", x.thieves(0, 0), 0);
        Check.due("nine times", x.opened(0, false), 9);
        Check.tape(x, "in 1;key 5;count 0;");
        Check.due("anew", x.text(2, 0), 0);
        Check.due("half of them fit", x.thieves(0, 0), 32);
        Check.due("once", x.opened(0, false), 1);
        Check.due("no fourth", x.entry(0, 3, 0), -2);
    }

    private static void noSuchThieves() {
        Check.sentence("17: -2: there is none such (of either), or for another what");
        YearsForCoin x = Check.told(2, "");
        for (int what = -80; what <= 100; what++) {
            int due = what == 0 ? 64 : what == 1 || what == 2 ? 0 : what >= 10 && what < 74 ? what - 10 : -2;
            Check.due("thieves " + what, x.thieves(0, what), due);
        }
        for (int what : new int[] {MAX, MAX - 1, MIN, MIN + 1, MIN + 9, MIN + 10, MIN + 11, 1 << 30, 65546}) {
            Check.due("thieves " + what, x.thieves(0, what), -2);
        }
        for (int ledger : NOT_THERE) {
            for (int what : new int[] {0, 1, 2, 10}) {
                Check.due("ledger " + ledger, x.thieves(ledger, what), -2);
            }
        }
    }
}
