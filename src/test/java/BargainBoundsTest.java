/** The edges of bargains: terms 4, 5, promises 18 to 20, 31, 36, sentence by sentence. */
public final class BargainBoundsTest {
    private static final int MAX = Integer.MAX_VALUE;
    private static final int MIN = Integer.MIN_VALUE;
    private static final int[] NOT_THERE = {-1, -2, 1, 2, 3, MAX, MIN};

    public static void main(String[] args) {
        rowsOfOneParty();
        rowsAtTheirWorth();
        rowsOfTheMost();
        everySetCounts();
        firstRowByNumbers();
        noneStands();
        noSuchRow();
        fairOfOneParty();
        fairAtItsEnds();
        fairBelowNothing();
        leastTerms();
        noSuchFair();
        evenRoundsDown();
        evenOfSeveral();
        evenSums();
        noSuchEven();
        vetoOfNothing();
        vetoes();
        idles();
        swings();
        noSuchPower();
        Check.exit("BargainBoundsTest");
    }

    private static void rows(String text, int many, int... first) {
        YearsForCoin x = Check.told(3, text);
        Check.due("rows of " + text, x.rows(0, -1), many);
        for (int p = 0; p < 6; p++) {
            Check.due("share " + p + " of " + text, x.rows(0, p), p < first.length ? first[p] : -1);
        }
        Check.due("rows of " + text + " once more", x.rows(0, -1), many);
    }

    private static void rowsOfOneParty() {
        Check.sentence("terms 4: ROWS .. of all PARTIES, together what all are WORTH; terms 1: PARTIES, 1 .. 4");
        for (int worth = 0; worth <= 40; worth++) {
            rows("parties 1;worth 1 " + worth + ";", 1, worth);
        }
        rows("parties 1;", 1, 0);
        rows("parties 2;", 1, 0, 0);
        rows("parties 3;", 1, 0, 0, 0);
        rows("parties 4;", 1, 0, 0, 0, 0);
    }

    private static void rowsAtTheirWorth() {
        Check.sentence("terms 4: STAND, if no set has less than it is WORTH");
        for (int one = 0; one <= 11; one++) {
            for (int other = 0; other <= 11; other++) {
                int left = 10 - one - other;
                String text = "worth 3 10;worth 1 " + one + ";worth 2 " + other + ";";
                if (left < 0) {
                    rows(text, 0);
                } else {
                    rows(text, left + 1, one, 10 - one);
                }
            }
        }
    }

    private static void rowsOfTheMost() {
        Check.sentence("terms 4: ROWS of whole shares, 0 or more; terms 1: WORTH, 0 .. 40");
        rows("worth 3 40;", 41, 0, 40);
        rows("parties 3;worth 7 40;", 861, 0, 0, 40);
        rows("parties 4;worth 15 40;", 12341, 0, 0, 0, 40);
        rows("parties 4;worth 15 39;", 11480, 0, 0, 0, 39);
        rows("parties 4;worth 15 1;", 4, 0, 0, 0, 1);
        rows("parties 4;worth 15 40;worth 1 40;", 1, 40, 0, 0, 0);
        rows("parties 4;worth 15 40;worth 1 10;worth 2 10;worth 4 10;worth 8 10;", 1, 10, 10, 10, 10);
        rows("parties 4;worth 15 40;worth 1 10;worth 2 10;worth 4 10;worth 8 11;", 0);
        rows("parties 4;worth 15 40;worth 1 10;worth 2 10;worth 4 10;worth 8 9;", 4, 10, 10, 10, 10);
    }

    private static void everySetCounts() {
        Check.sentence("terms 4: if no set has less than it is WORTH");
        for (int parties = 2; parties <= 4; parties++) {
            int all = (1 << parties) - 1;
            for (int set = 1; set < all; set++) {
                // All others get nothing, and what all are worth stays within the set.
                int inside = Integer.bitCount(set);
                int[] ways = {0, 1, 11, 66};
                String text = "parties " + parties + ";worth " + all + " 10;worth " + set + " ";
                Check.due("all in " + set, Check.told(3, text + "10;").rows(0, -1), ways[inside]);
                Check.due("one more than all in " + set, Check.told(3, text + "11;").rows(0, -1), 0);
            }
        }
    }

    private static void firstRowByNumbers() {
        Check.sentence("terms 4: the first by numbers");
        rows("parties 4;worth 15 9;worth 3 9;", 10, 0, 9, 0, 0);
        rows("parties 4;worth 15 9;worth 12 9;", 10, 0, 0, 0, 9);
        rows("parties 4;worth 15 9;worth 5 9;worth 1 2;", 8, 2, 0, 7, 0);
        rows("parties 3;worth 7 9;worth 6 8;worth 1 1;", 9, 1, 0, 8);
    }

    private static void noneStands() {
        Check.sentence("19: NONE: none stands (but for how many)");
        rows("worth 1 1;", 0);
        rows("parties 3;worth 6 1;", 0);
        rows("parties 4;worth 14 40;worth 15 39;", 0);
        rows("parties 4;worth 14 40;worth 15 40;", 861, 0, 0, 0, 40);
    }

    private static void noSuchRow() {
        Check.sentence("19: NONE: .. or there is none such (of either)");
        for (int parties = 1; parties <= 4; parties++) {
            YearsForCoin x = Check.told(3, "parties " + parties + ";");
            Check.due("the last", x.rows(0, parties - 1), 0);
            for (int k : new int[] {parties, parties + 1, 4, 5, -2, -3, MAX, MIN}) {
                Check.due("party " + k + " of " + parties, x.rows(0, k), -1);
            }
            for (int bargain : NOT_THERE) {
                Check.due("bargain " + bargain, x.rows(bargain, -1), -1);
                Check.due("bargain " + bargain, x.rows(bargain, 0), -1);
            }
        }
    }

    private static void fair(String text, int party, int over, int under) {
        YearsForCoin x = Check.told(3, text);
        Check.due("fair of " + party + " in " + text, x.fair(0, party, false), over);
        Check.due("under of " + party + " in " + text, x.fair(0, party, true), under);
    }

    private static void fairOfOneParty() {
        Check.sentence("terms 4: FAIR of a party, of one party, of nothing");
        for (int worth : new int[] {0, 1, 39, 40}) {
            fair("parties 1;worth 1 " + worth + ";", 0, worth, 1);
        }
        for (int parties = 1; parties <= 4; parties++) {
            for (int p = 0; p < parties; p++) {
                fair("parties " + parties + ";", p, 0, 1);
            }
        }
    }

    private static void fairAtItsEnds() {
        Check.sentence("terms 4: FAIR: the mean of what the set of those that came is WORTH more with it than ahead of it");
        StringBuilder with = new StringBuilder("parties 4;");
        StringBuilder without = new StringBuilder("parties 4;");
        for (int set = 1; set < 16; set++) {
            with.append((set & 8) != 0 ? "worth " + set + " 40;" : "");
            without.append((set & 8) == 0 ? "worth " + set + " 40;" : "");
        }
        fair(with.toString(), 3, 40, 1);
        fair(with.toString(), 0, 0, 1);
        // First of all it brings nothing, else 40 less.
        fair(without.toString(), 3, -30, 1);
        fair(without.toString(), 0, 10, 1);
        fair("parties 4;worth 15 40;", 0, 10, 1);
        fair("parties 4;worth 15 39;", 3, 39, 4);
        fair("parties 3;worth 7 40;", 2, 40, 3);
    }

    private static void fairBelowNothing() {
        Check.sentence("terms 4: a fraction in least terms (it may be below 0)");
        fair("worth 1 40;", 0, 20, 1);
        fair("worth 1 40;", 1, -20, 1);
        fair("worth 1 1;", 1, -1, 2);
        fair("worth 2 39;", 0, -39, 2);
        fair("parties 3;worth 1 1;", 1, -1, 6);
        fair("parties 4;worth 1 1;", 1, -1, 12);
        fair("parties 4;worth 1 2;", 1, -1, 6);
        fair("parties 4;worth 1 3;", 1, -1, 4);
        fair("parties 4;worth 1 12;", 1, -1, 1);
        fair("parties 4;worth 1 24;", 1, -2, 1);
    }

    private static void leastTerms() {
        Check.sentence("terms 4: a fraction in least terms; 20: N, or (under) D");
        for (int worth = 0; worth <= 40; worth++) {
            for (int parties = 1; parties <= 4; parties++) {
                int by = gcd(worth, parties);
                int all = (1 << parties) - 1;
                fair("parties " + parties + ";worth " + all + " " + worth + ";", 0, worth / by, parties / by);
            }
        }
    }

    private static int gcd(int a, int b) {
        return b == 0 ? a : gcd(b, a % b);
    }

    private static void noSuchFair() {
        Check.sentence("20: -1000: there is none such (of either)");
        for (int parties = 1; parties <= 4; parties++) {
            YearsForCoin x = Check.told(3, "parties " + parties + ";");
            Check.due("the last", x.fair(0, parties - 1, false), 0);
            Check.due("the last", x.fair(0, parties - 1, true), 1);
            for (int party : new int[] {parties, parties + 1, 4, 5, -1, -2, 31, 32, MAX, MIN}) {
                Check.due("party " + party + " of " + parties, x.fair(0, party, false), -1000);
                Check.due("party " + party + " of " + parties, x.fair(0, party, true), -1000);
            }
            for (int bargain : NOT_THERE) {
                Check.due("bargain " + bargain, x.fair(bargain, 0, false), -1000);
                Check.due("bargain " + bargain, x.fair(bargain, 0, true), -1000);
            }
        }
    }

    private static void even(String text, int... due) {
        YearsForCoin x = Check.told(3, text);
        for (int p = 0; p < due.length; p++) {
            Check.due("even of " + p + " in " + text, x.even(0, p), due[p]);
        }
    }

    private static void evenRoundsDown() {
        Check.sentence("terms 5: EVEN: its FAIR, rounded down (below 0, too: to the next whole one below)");
        even("", 0, 0);
        even("parties 1;worth 1 40;", 40);
        // 20 and -20; 39 halves and -39 halves: 19 and -20, and one is left.
        even("worth 1 40;", 20, -20);
        even("worth 1 39;", 20, -20);
        even("worth 2 39;", -19, 19);
        even("worth 1 1;", 1, -1);
        even("worth 2 1;", 0, 0);
        even("worth 1 2;", 1, -1);
        even("parties 4;worth 1 12;", 3, -1, -1, -1);
    }

    private static void evenOfSeveral() {
        Check.sentence("terms 5: EVEN: what is left .. goes by 1 each to parties of whom most was rounded off, of several the least first");
        even("parties 4;worth 15 0;", 0, 0, 0, 0);
        even("parties 4;worth 15 1;", 1, 0, 0, 0);
        even("parties 4;worth 15 2;", 1, 1, 0, 0);
        even("parties 4;worth 15 3;", 1, 1, 1, 0);
        even("parties 4;worth 15 4;", 1, 1, 1, 1);
        even("parties 4;worth 15 39;", 10, 10, 10, 9);
        even("parties 4;worth 15 40;", 10, 10, 10, 10);
        // 1/6, 1/6, 2/3: of the last one most is rounded off.
        even("parties 3;worth 5 1;worth 6 1;worth 7 1;", 0, 0, 1);
        even("parties 3;worth 3 1;worth 6 1;worth 7 1;", 0, 1, 0);
        // 1/4 and three times -1/12: 11/12 is rounded off three times, 1/4 once, and three are left.
        even("parties 4;worth 1 1;", 0, 0, 0, 0);
        even("parties 4;worth 8 1;", 0, 0, 0, 0);
        // 3/4 and three times -1/4: of all four 3/4 is rounded off, and three are left.
        even("parties 4;worth 1 3;", 1, 0, 0, -1);
        even("parties 4;worth 8 3;", 0, 0, 0, 0);
    }

    private static void evenSums() {
        Check.sentence("terms 5: EVEN: what is left of what all are WORTH");
        for (int a = 0; a <= 40; a += 3) {
            for (int b = 0; b <= 40; b += 7) {
                for (int all = 0; all <= 40; all += 5) {
                    YearsForCoin x = Check.told(3, "parties 4;worth 3 " + a + ";worth 13 " + b + ";worth 15 " + all + ";");
                    Check.due("together", x.even(0, 0) + x.even(0, 1) + x.even(0, 2) + x.even(0, 3), all);
                }
            }
        }
    }

    private static void noSuchEven() {
        Check.sentence("36: -1000: there is none such (of either)");
        for (int parties = 1; parties <= 4; parties++) {
            YearsForCoin x = Check.told(3, "parties " + parties + ";");
            Check.due("the last", x.even(0, parties - 1), 0);
            for (int party : new int[] {parties, parties + 1, 4, 5, -1, -2, 31, 32, MAX, MIN}) {
                Check.due("party " + party + " of " + parties, x.even(0, party), -1000);
            }
            for (int bargain : NOT_THERE) {
                Check.due("bargain " + bargain, x.even(bargain, 0), -1000);
            }
        }
    }

    private static void power(String text, int what, int due) {
        Check.due("power " + what + " of " + text, Check.told(3, text).power(0, what), due);
    }

    private static void vetoOfNothing() {
        Check.sentence("terms 5: VETO, IDLE, SWINGS, where nothing is WORTH anything");
        for (int parties = 1; parties <= 4; parties++) {
            String text = "parties " + parties + ";";
            power(text, 0, (1 << parties) - 1);
            power(text, 1, (1 << parties) - 1);
            for (int p = 0; p < parties; p++) {
                power(text, 10 + p, 0);
            }
        }
    }

    private static void vetoes() {
        Check.sentence("terms 5: VETO: parties (bits) without each of whom no set is WORTH anything");
        for (int set = 1; set < 16; set++) {
            power("parties 4;worth " + set + " 1;", 0, set);
            power("parties 4;worth " + set + " 40;worth 15 40;", 0, set);
            power("parties 4;worth " + set + " 1;worth " + (15 - set == 0 ? 15 : 15 - set) + " 1;", 0, set == 15 ? 15 : 0);
        }
        power("parties 1;worth 1 1;", 0, 1);
        power("parties 3;worth 3 1;worth 6 1;", 0, 2);
    }

    private static void idles() {
        Check.sentence("terms 5: IDLE: parties (bits) with each of whom no set is WORTH other than without it");
        power("parties 1;worth 1 1;", 1, 0);
        power("parties 2;worth 1 1;worth 3 1;", 1, 2);
        power("parties 2;worth 1 2;worth 3 1;", 1, 0);
        power("parties 2;worth 1 1;worth 3 2;", 1, 0);
        for (int p = 0; p < 4; p++) {
            // All sets with the party are worth the same, those without it nothing.
            StringBuilder text = new StringBuilder("parties 4;");
            for (int set = 1; set < 16; set++) {
                text.append((set >> p & 1) == 1 ? "worth " + set + " 7;" : "");
            }
            power(text.toString(), 1, 15 - (1 << p));
            power(text.toString(), 10 + p, 8);
            power(text.toString(), 10 + (p + 1) % 4, 0);
        }
    }

    private static void swings() {
        Check.sentence("terms 5: SWINGS of a party: how many sets with it are WORTH more than without it");
        for (int set = 1; set < 16; set++) {
            for (int p = 0; p < 4; p++) {
                // The set alone is worth something, so it is the only one that a party in it makes more.
                power("parties 4;worth " + set + " 1;", 10 + p, set >> p & 1);
            }
        }
        power("worth 1 5;worth 3 4;", 11, 0);
        power("worth 1 5;worth 3 5;", 11, 0);
        power("worth 1 5;worth 3 6;", 11, 1);
        power("worth 1 5;worth 2 1;worth 3 6;", 11, 2);
        power("parties 1;worth 1 1;", 10, 1);
    }

    private static void noSuchPower() {
        Check.sentence("31: NONE: there is none such (of either), or for another what");
        for (int parties = 1; parties <= 4; parties++) {
            YearsForCoin x = Check.told(3, "parties " + parties + ";worth 1 1;");
            for (int what = -20; what <= 60; what++) {
                boolean may = what == 0 || what == 1 || what >= 10 && what < 10 + parties;
                Check.due("power " + what + " of " + parties, x.power(0, what) == -1, !may);
            }
            for (int what : new int[] {MAX, MIN, MIN + 9, MIN + 10, 42, 74, 65546}) {
                Check.due("power " + what, x.power(0, what), -1);
            }
            for (int bargain : NOT_THERE) {
                for (int what : new int[] {0, 1, 10}) {
                    Check.due("bargain " + bargain, x.power(bargain, what), -1);
                }
            }
        }
    }
}
