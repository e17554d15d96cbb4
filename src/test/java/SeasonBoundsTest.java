import java.math.BigInteger;

/** The edges of seasons told and drawn: terms 2, 4, 5, promises 8, 9, 21, 32, sentence by sentence. */
public final class SeasonBoundsTest {
    private static final int MAX = Integer.MAX_VALUE;
    private static final int MIN = Integer.MIN_VALUE;
    private static final int[] NOT_THERE = {-1, -2, 1, 2, 3, MAX, MIN};
    private static final String[] KINDS = {"poor", "knight", "widow", "doubter"};

    public static void main(String[] args) {
        beginsAsTold();
        meansAtThePrice();
        owesNothingAtLeast();
        aheadWithoutEnd();
        sharesAreCut();
        sinUpToNinetyNine();
        doubtDownToNothing();
        jubileeUpToNinetyNine();
        jubileeOfThoseWhoHad();
        goingAlongRoads();
        upToDayNinetyNine();
        sellingInThisTown();
        shutAndOpen();
        noSuchBuyerOrLetter();
        stopOfEmptyAndFull();
        noSuchStop();
        statesUpToStop();
        stateWhat();
        drawnNumbers();
        drawnOfEverySeed();
        drawnYears();
        drawnWithoutAny();
        drawnSales();
        askedTwice();
        payer();
        half();
        ahead();
        noSuchAfter();
        Check.exit("SeasonBoundsTest");
    }

    private static YearsForCoin both(String land, String season) {
        YearsForCoin x = Check.told(0, land);
        Check.due("season", Check.tell(x, 1, season), 0);
        return x;
    }

    private static void stops(String land, String season, int stop) {
        Check.due("stop of " + season + " in " + land, both(land, season).stop(0, 0), stop);
    }

    /** STOP is behind the last deed, and there the state is so. */
    private static void ends(String land, String season, int what, int due) {
        YearsForCoin x = both(land, season);
        int stop = x.deed(0, -1, 0);
        Check.due("stop of " + season + " in " + land, x.stop(0, 0), stop);
        Check.due("state " + what + " behind " + season + " in " + land, x.state(0, 0, stop, what), due);
    }

    private static void beginsAsTold() {
        Check.sentence("terms 2: A SEASON of a LAND begins on day 0 in TOWN 0, all as told");
        YearsForCoin x = both("towns 6;shut 0;shut 5;bank 5;poor 5 99 98 9;knight 0 0 0 0;", "");
        int[] plain = {0, 0, 33, 0, 0, 0, 0};
        for (int what = 0; what < 7; what++) {
            Check.due("state " + what, x.state(0, 0, 0, what), plain[what]);
            Check.due("drawn " + what, x.drawn(0, 1, 0, what), plain[what]);
        }
        int[][] buyers = {{99, 0}, {98, 0}, {9, 0}, {0, 0}};
        for (int row = 0; row < 4; row++) {
            for (int b = 0; b < 2; b++) {
                Check.due("buyer", x.state(0, 0, 0, 10 * (row + 1) + b), buyers[row][b]);
                Check.due("drawn buyer", x.drawn(0, 1, 0, 10 * (row + 1) + b), buyers[row][b]);
            }
        }
        Check.due("no third", x.state(0, 0, 0, 12), -1000);
    }

    private static void meansAtThePrice() {
        Check.sentence("terms 2: sell: .. takes that LETTER at its PRICE: his MEANS are so much less");
        for (String kind : KINDS) {
            stops(kind + " 0 99 29 9;letter 60 30;", "sell 0 0;", 0);
            ends(kind + " 0 99 30 9;letter 60 30;", "sell 0 0;", 20, 0);
            ends(kind + " 0 99 31 9;letter 60 30;", "sell 0 0;", 20, 1);
            ends(kind + " 0 99 60 9;letter 20 30;", "sell 0 0;sell 0 0;", 20, 0);
            stops(kind + " 0 99 59 9;letter 20 30;", "sell 0 0;sell 0 0;", 1);
            ends(kind + " 0 99 0 0;letter 20 0;", "sell 0 0;sell 0 0;", 20, 0);
        }
    }

    private static void owesNothingAtLeast() {
        Check.sentence("terms 2: what he OWES is YEARS less, 0 at least (of a KNIGHT below 0, too: he is AHEAD), he has BOUGHT so many years more");
        for (String kind : KINDS) {
            boolean knight = kind.equals("knight");
            for (int owed = 9; owed <= 11; owed++) {
                int left = owed - 10;
                ends(kind + " 0 " + owed + " 0 0;letter 10 0;", "sell 0 0;", 10, knight ? left : Math.max(0, left));
                ends(kind + " 0 " + owed + " 0 0;letter 10 0;", "sell 0 0;", 40, 10);
            }
            ends(kind + " 0 1 0 0;letter 60 0;", "sell 0 0;", 10, knight ? -59 : 0);
            ends(kind + " 0 1 0 0;letter 60 0;", "sell 0 0;", 40, 60);
            // Who OWES nothing takes no more, but a KNIGHT.
            stops(kind + " 0 10 0 0;letter 10 0;", "sell 0 0;sell 0 0;", knight ? 2 : 1);
            stops(kind + " 0 11 0 0;letter 10 0;", "sell 0 0;sell 0 0;", 2);
        }
    }

    private static void aheadWithoutEnd() {
        Check.sentence("terms 2: of a KNIGHT below 0, too; terms 1: DEEDS, at most 40");
        String land = "knight 0 0 0 0;letter 60 0;";
        ends(land, "sell 0 0;".repeat(40), 10, -2400);
        ends(land, "sell 0 0;".repeat(40), 40, 2400);
        ends(land, "sell 0 0;".repeat(40), 3, 40);
        ends(land, "sell 0 0;".repeat(39) + "jubilee;", 10, 0);
        ends(land, "sell 0 0;".repeat(39) + "jubilee;", 40, 0);
        ends(land, "sell 0 0;".repeat(39) + "sin 0 60;", 10, -2280);
        // 99 at most holds for those who are ahead, too.
        ends(land, "sin 0 60;sin 0 60;sell 0 0;sell 0 0;jubilee;", 10, 99);
    }

    private static void sharesAreCut() {
        Check.sentence("terms 2: of the PRICE the BANK has its parts of ten (cut), the RULER likewise, the church the rest");
        for (int bank = 0; bank <= 5; bank++) {
            for (int ruler = 0; ruler <= 5; ruler++) {
                for (int price : new int[] {0, 1, 2, 3, 9, 10, 11, 19, 59, 60}) {
                    YearsForCoin x = both("bank " + bank + ";ruler " + ruler + ";knight 0 0 99 9;letter 60 " + price + ";", "sell 0 0;");
                    int toBank = (price * bank - price * bank % 10) / 10;
                    int toRuler = (price * ruler - price * ruler % 10) / 10;
                    Check.due("bank " + bank + " of " + price, x.state(0, 0, 1, 4), toBank);
                    Check.due("ruler " + ruler + " of " + price, x.state(0, 0, 1, 5), toRuler);
                    Check.due("church of " + price, x.state(0, 0, 1, 6), price - toBank - toRuler);
                }
            }
        }
        // Each one is cut, not their sum.
        YearsForCoin x = both("bank 5;ruler 1;knight 0 0 99 9;letter 1 1;", "sell 0 0;".repeat(40));
        Check.due("bank", x.state(0, 0, 40, 4), 0);
        Check.due("ruler", x.state(0, 0, 40, 5), 0);
        Check.due("church", x.state(0, 0, 40, 6), 40);
    }

    private static void sinUpToNinetyNine() {
        Check.sentence("terms 2: sin: a BUYER OWES so many years more, 99 at most");
        for (String kind : KINDS) {
            for (int owed = 97; owed <= 99; owed++) {
                ends(kind + " 1 " + owed + " 0 0;", "sin 0 1;", 10, Math.min(99, owed + 1));
                ends(kind + " 1 " + owed + " 0 0;", "sin 0 60;", 10, 99);
            }
            for (int owed = 38; owed <= 40; owed++) {
                ends(kind + " 1 " + owed + " 0 0;", "sin 0 60;", 10, Math.min(99, owed + 60));
            }
            ends(kind + " 1 0 0 0;", "sin 0 1;", 10, 1);
            ends(kind + " 1 0 0 0;", "sin 0 60;".repeat(40), 10, 99);
        }
        ends("knight 0 0 0 0;letter 60 0;", "sell 0 0;sin 0 59;", 10, -1);
        ends("knight 0 0 0 0;letter 60 0;", "sell 0 0;sin 0 60;", 10, 0);
        ends("knight 0 0 0 0;letter 59 0;", "sell 0 0;sin 0 60;", 10, 1);
    }

    private static void doubtDownToNothing() {
        Check.sentence("terms 2: doubt: FEAR of all is 1 less, 0 at least");
        StringBuilder land = new StringBuilder();
        for (int b = 0; b < 8; b++) {
            land.append(KINDS[b % 4] + " " + b % 3 + " 0 0 " + (b == 7 ? 9 : b) + ";");
        }
        for (int doubts = 0; doubts <= 11; doubts++) {
            YearsForCoin x = both(land.toString(), "doubt;".repeat(doubts));
            for (int b = 0; b < 8; b++) {
                Check.due("fear behind " + doubts, x.state(0, 0, doubts, 30 + b), Math.max(0, (b == 7 ? 9 : b) - doubts));
            }
        }
        stops("", "doubt;".repeat(40), 40);
    }

    private static void jubileeUpToNinetyNine() {
        Check.sentence("terms 2: jubilee: each OWES what he has BOUGHT more, 99 at most, and has BOUGHT none");
        for (int owed = 97; owed <= 99; owed++) {
            // 60 bought, then a sin of 1: 98, 99 and one more than 99 would be owed.
            YearsForCoin x = both("poor 0 " + owed + " 0 0;letter 60 0;", "sell 0 0;sin 0 1;jubilee;");
            Check.due("owes", x.state(0, 0, 2, 10), owed - 59);
            Check.due("owes behind it", x.state(0, 0, 3, 10), Math.min(99, owed + 1));
            Check.due("bought", x.state(0, 0, 2, 40), 60);
            Check.due("bought behind it", x.state(0, 0, 3, 40), 0);
        }
        // He bought more than he owed, and owes all of it.
        ends("poor 0 1 0 0;letter 60 0;", "sell 0 0;jubilee;", 10, 60);
        ends("poor 0 1 0 0;letter 60 0;", "sell 0 0;jubilee;sell 0 0;sin 0 60;jubilee;", 10, 99);
        stops("", "jubilee;".repeat(40), 40);
    }

    private static void jubileeOfThoseWhoHad() {
        Check.sentence("terms 2: jubilee: .. FEAR of all who had is 1 less, 0 at least");
        String land = "poor 0 9 0 2;poor 0 9 0 1;poor 0 9 0 0;poor 0 9 0 9;letter 1 0;";
        YearsForCoin x = both(land, "jubilee;sell 0 0;sell 1 0;sell 2 0;jubilee;jubilee;sell 0 0;jubilee;sell 0 0;jubilee;");
        Check.due("stop", x.stop(0, 0), 10);
        int[][] due = {{1, 2, 1, 0, 9}, {5, 1, 0, 0, 9}, {6, 1, 0, 0, 9}, {8, 0, 0, 0, 9}, {10, 0, 0, 0, 9}};
        for (int[] of : due) {
            for (int b = 0; b < 4; b++) {
                Check.due("fear of " + b + " behind " + of[0], x.state(0, 0, of[0], 30 + b), of[b + 1]);
            }
        }
        // Letters sold stay told, the coins stay where they are.
        ends("poor 0 9 9 9;letter 1 5;", "sell 0 0;jubilee;", 3, 1);
        ends("poor 0 9 9 9;letter 1 5;", "sell 0 0;jubilee;", 6, 5);
        ends("poor 0 9 9 9;letter 1 5;", "sell 0 0;jubilee;", 20, 4);
    }

    private static void goingAlongRoads() {
        Check.sentence("terms 2: go: along a ROAD to a TOWN that is not SHUT, so many days; A DEED can't be, if there is no such TOWN, ROAD");
        for (int towns = 1; towns <= 6; towns++) {
            for (int to = 0; to < 6; to++) {
                String road = to > 0 && to < towns ? "road 0 " + to + " 3;" : "";
                stops("towns " + towns + ";" + road, "go " + to + ";", road.isEmpty() ? 0 : 1);
                stops("towns " + towns + ";", "go " + to + ";", 0);
            }
        }
        ends("road 0 1 1;", "go 1;", 0, 1);
        ends("road 0 1 9;", "go 1;", 0, 9);
        ends("road 1 0 9;", "go 1;go 0;", 0, 18);
        ends("road 0 1 1;", "go 1;", 1, 1);
        stops("road 0 1 1;road 1 2 1;", "go 2;", 0);
        stops("road 0 1 1;shut 1;", "go 1;", 0);
        stops("road 0 1 1;shut 0;", "go 1;", 1);
        stops("road 0 1 1;shut 0;", "go 1;go 0;", 1);
    }

    private static void upToDayNinetyNine() {
        Check.sentence("terms 2: A DEED can't be, if .. it would be done behind day 99");
        String nines = "go 1;go 0;".repeat(5);
        for (int more = 1; more <= 9; more++) {
            // Day 90 is in town 0; one stretch leads to day 90 + more, a day's one behind it.
            String land = "towns 4;road 0 1 9;road 0 2 " + more + ";road 2 3 1;";
            ends(land, nines + "go 2;", 0, 90 + more);
            stops(land, nines + "go 2;go 3;", more == 9 ? 11 : 12);
            stops(land, nines + "go 2;go 2;", 11);
        }
        stops("road 0 1 9;road 1 2 1;", nines + "go 1;go 2;", 11);
        stops("road 0 1 9;road 1 2 9;", nines + "go 1;go 2;", 11);
        // On day 99 all that takes no day can be.
        ends("road 0 1 9;poor 1 9 9 9;letter 1 1;", nines + "go 1;sell 0 0;sin 0 1;doubt;jubilee;shut 1;open 1;shut 1;", 0, 99);
    }

    private static void sellingInThisTown() {
        Check.sentence("terms 2: sell: a BUYER in this TOWN, which is not SHUT");
        for (int town = 0; town < 3; town++) {
            String land = "road 0 1 1;road 1 2 1;road 0 2 1;letter 1 1;poor " + town + " 9 9 9;";
            stops(land, "sell 0 0;", town == 0 ? 1 : 0);
            stops(land, "go 1;sell 0 0;", town == 1 ? 2 : 1);
            stops(land, "go 2;sell 0 0;", town == 2 ? 2 : 1);
            stops(land, "shut 0;sell 0 0;", 1);
            stops(land + "shut 0;", "open 0;sell 0 0;", town == 0 ? 2 : 1);
            stops(land, "go 2;shut 2;sell 0 0;", 2);
            stops(land, "go 2;shut 1;sell 0 0;", town == 2 ? 3 : 2);
        }
    }

    private static void shutAndOpen() {
        Check.sentence("terms 2: shut: a TOWN that is not SHUT; open: one that is. A DEED can't be, if there is no such TOWN");
        for (int towns = 1; towns <= 6; towns++) {
            for (int t = 0; t < 6; t++) {
                boolean there = t < towns;
                String land = "towns " + towns + ";";
                stops(land, "shut " + t + ";", there ? 1 : 0);
                stops(land, "open " + t + ";", 0);
                if (there) {
                    stops(land, "shut " + t + ";shut " + t + ";", 1);
                    stops(land + "shut " + t + ";", "shut " + t + ";", 0);
                    stops(land + "shut " + t + ";", "open " + t + ";open " + t + ";", 1);
                    ends(land, "shut " + t + ";", 2, 1 << t);
                    ends(land + "shut " + t + ";", "open " + t + ";", 2, 0);
                }
            }
        }
        ends("towns 6;", "shut 0;shut 1;shut 2;shut 3;shut 4;shut 5;", 2, 63);
        ends("towns 6;", "shut 0;shut 1;shut 2;shut 3;shut 4;shut 5;open 5;open 0;", 2, 30);
    }

    private static void noSuchBuyerOrLetter() {
        Check.sentence("terms 2: A DEED can't be, if there is no such .. BUYER, LETTER");
        for (int many = 0; many <= 8; many++) {
            String buyers = "poor 0 9 9 9;".repeat(many);
            for (int b = 0; b < 8; b++) {
                stops(buyers + "letter 1 1;", "sell " + b + " 0;", b < many ? 1 : 0);
                stops(buyers, "sin " + b + " 1;", b < many ? 1 : 0);
            }
        }
        for (int many = 0; many <= 4; many++) {
            for (int l = 0; l < 4; l++) {
                stops("poor 0 9 9 9;" + "letter 1 1;".repeat(many), "sell 0 " + l + ";", l < many ? 1 : 0);
            }
        }
    }

    private static void stopOfEmptyAndFull() {
        Check.sentence("terms 2: STOP: the first DEED that can't be, else how many there are");
        stops("", "", 0);
        stops("", "doubt;", 1);
        stops("", "go 0;", 0);
        stops("", "doubt;".repeat(40), 40);
        stops("", "doubt;".repeat(39) + "go 0;", 39);
        stops("", "doubt;".repeat(38) + "go 0;doubt;", 38);
        stops("", "go 0;" + "doubt;".repeat(39), 0);
        stops("", "doubt;go 0;doubt;go 0;", 1);
    }

    private static void noSuchStop() {
        Check.sentence("8: STOP. NONE: there is none such (of either)");
        YearsForCoin x = both("", "doubt;");
        for (int odd : NOT_THERE) {
            Check.due("land " + odd, x.stop(odd, 0), -1);
            Check.due("season " + odd, x.stop(0, odd), -1);
            Check.due("both " + odd, x.stop(odd, odd), -1);
        }
        Check.due("a land alone", Check.told(0, "").stop(0, 0), -1);
        Check.due("a season alone", Check.told(1, "").stop(0, 0), -1);
        Check.tell(x, 0, "");
        Check.tell(x, 1, "doubt;doubt;");
        int[] stops = {1, 2};
        for (int land = 0; land < 2; land++) {
            for (int season = 0; season < 2; season++) {
                Check.due("stop", x.stop(land, season), stops[season]);
            }
        }
    }

    private static void statesUpToStop() {
        Check.sentence("terms 2: A STATE is behind the first n DEEDS, n up to STOP; 9: -1000: there is no such STATE");
        for (int can = 0; can <= 40; can++) {
            String season = "doubt;".repeat(can) + (can < 40 ? "go 0;" : "") + (can < 39 ? "doubt;" : "");
            YearsForCoin x = both("poor 0 0 0 9;", season);
            for (int n : new int[] {MIN, -2, -1, 0, can - 1, can, can + 1, can + 2, 40, 41, MAX}) {
                boolean there = n >= 0 && n <= can;
                Check.due("state " + n + " of " + can, x.state(0, 0, n, 30), there ? Math.max(0, 9 - n) : -1000);
                Check.due("state " + n + " of " + can, x.state(0, 0, n, 0), there ? 0 : -1000);
            }
        }
        YearsForCoin x = both("", "doubt;");
        for (int odd : NOT_THERE) {
            Check.due("land " + odd, x.state(odd, 0, 0, 0), -1000);
            Check.due("season " + odd, x.state(0, odd, 0, 0), -1000);
        }
        Check.due("a land alone", Check.told(0, "").state(0, 0, 0, 0), -1000);
        Check.due("a season alone", Check.told(1, "").state(0, 0, 0, 0), -1000);
    }

    private static void stateWhat() {
        Check.sentence("9: what 0 .. 6, 10 + b, 20 + b, 30 + b, 40 + b. -1000: .. for another what");
        for (int many = 0; many <= 8; many++) {
            YearsForCoin x = both("poor 0 1 2 3;".repeat(many), "");
            for (int what = -60; what <= 120; what++) {
                boolean buyer = what >= 10 && what < 50 && what % 10 < many;
                int due = buyer ? what / 10 % 4 : what >= 0 && what <= 6 ? 0 : -1000;
                Check.due("state what " + what + " of " + many, x.state(0, 0, 0, what), due);
                Check.due("drawn what " + what + " of " + many, x.drawn(0, 7, 0, what), due);
            }
            for (int what : new int[] {1000, 65546, MAX, MAX - 7, MIN, MIN + 8, MIN + 10}) {
                Check.due("state what " + what, x.state(0, 0, 0, what), -1000);
                Check.due("drawn what " + what, x.drawn(0, 7, 0, what), -1000);
            }
        }
    }

    private static void drawnNumbers() {
        Check.sentence("21: DRAWN, n times. -1000: there is none such, another n; terms 4: n times, 0 to 60");
        YearsForCoin x = Check.told(0, "poor 0 9 9 9;letter 1 0;");
        for (int n : new int[] {MIN, -2, -1, 0, 1, 59, 60, 61, 62, MAX}) {
            Check.due("drawn " + n, x.drawn(0, 1, n, 0), n >= 0 && n <= 60 ? 0 : -1000);
        }
        for (int land : NOT_THERE) {
            Check.due("land " + land, x.drawn(land, 1, 1, 0), -1000);
        }
    }

    /** What a seed draws, by numbers that have no bounds. */
    private static final class Seed {
        private BigInteger x;

        Seed(int seed) {
            x = BigInteger.valueOf(seed & 0xffffffffL);
        }

        int below(int n) {
            x = x.multiply(BigInteger.valueOf(1103515245)).add(BigInteger.valueOf(12345)).mod(BigInteger.ONE.shiftLeft(32));
            return x.shiftRight(16).mod(BigInteger.valueOf(n)).intValue();
        }
    }

    private static void drawnOfEverySeed() {
        Check.sentence("terms 4: x becomes x * 1103515245 + 12345 (of 32 bits), it is x shifted right by 16 without sign, remainder by n");
        // All that can be done here is to sin, to doubt, to go; the numbers below 7 and below 6 are drawn for them, too.
        YearsForCoin x = Check.told(0, "towns 6;road 0 1 1;road 0 2 1;road 0 3 1;road 0 4 1;road 0 5 1;road 1 2 1;road 3 4 1;"
            + "poor 5 0 0 9;".repeat(7));
        int[] seeds = {0, 1, -1, 2, -2, 12345, -12345, 65535, 65536, -65536, MAX, MAX - 1, MIN, MIN + 1, 1103515245, -1103515245};
        for (int seed : seeds) {
            for (int n : new int[] {1, 2, 5, 59, 60}) {
                drawnLikeASeed(x, seed, n);
            }
        }
    }

    private static void drawnLikeASeed(YearsForCoin x, int seed, int n) {
        Seed by = new Seed(seed);
        int town = 0;
        int day = 0;
        int fear = 9;
        int[] owed = new int[7];
        for (int i = 0; i < n; i++) {
            int which = by.below(8);
            if (which == 0) {
                int to = by.below(6);
                boolean road = to != town && (to == 0 || town == 0 || to + town == 3 || to * town == 12 && to + town == 7);
                day += road && day < 99 ? 1 : 0;
                town = road ? to : town;
            } else if (which < 5) {
                // There are no letters to draw from.
                by.below(7);
            } else if (which == 5) {
                int b = by.below(7);
                owed[b] = Math.min(99, owed[b] + 1 + by.below(9));
            } else if (which == 6) {
                fear = Math.max(0, fear - 1);
            }
        }
        Check.due("day of " + seed + " " + n, x.drawn(0, seed, n, 0), day);
        Check.due("town of " + seed + " " + n, x.drawn(0, seed, n, 1), town);
        Check.due("fear of " + seed + " " + n, x.drawn(0, seed, n, 30), fear);
        for (int b = 0; b < 7; b++) {
            Check.due("owed by " + b + " of " + seed + " " + n, x.drawn(0, seed, n, 10 + b), owed[b]);
        }
    }

    private static void drawnYears() {
        Check.sentence("terms 4: sin, a BUYER, years, 1 more than a number below 9; 99 at most");
        boolean[] seen = new boolean[100];
        for (int seed = 0; seed < 2000; seed++) {
            YearsForCoin x = Check.told(0, "poor 0 0 0 0;");
            seen[x.drawn(0, seed, 1, 10)] = true;
        }
        for (int years = 0; years < 100; years++) {
            Check.due("years " + years + " come up", seen[years], years <= 9);
        }
        for (int seed = 0; seed < 300; seed++) {
            int owes = Check.told(0, "poor 0 95 0 0;").drawn(0, seed, 60, 10);
            Check.due("99 at most", owes >= 95 && owes <= 99, true);
        }
    }

    private static int seedThat(int... belowAndDrawn) {
        for (int seed = 0; seed < 3000000; seed++) {
            int x = seed;
            boolean same = true;
            for (int i = 0; i < belowAndDrawn.length && same; i += 2) {
                x = x * 1103515245 + 12345;
                same = (x >>> 16) % belowAndDrawn[i] == belowAndDrawn[i + 1];
            }
            if (same) {
                return seed;
            }
        }
        Check.due("a seed is found", 0, 1);
        return 0;
    }

    private static void drawnWithoutAny() {
        Check.sentence("terms 4: Where there are no BUYERS, no LETTERS to draw from, that DEED draws no more, nothing is done");
        YearsForCoin nobody = Check.told(0, "road 0 1 1;road 0 2 1;letter 1 0;");
        YearsForCoin nothing = Check.told(0, "road 0 1 1;road 0 2 1;");
        YearsForCoin noLetter = Check.told(0, "road 0 1 1;road 0 2 1;" + "poor 0 0 0 0;".repeat(5));
        for (int which = 1; which <= 5; which++) {
            int seed = seedThat(8, which, 8, 0, 3, 2);
            Check.due("nobody, " + which, nobody.drawn(0, seed, 2, 1), 2);
            Check.due("nobody, " + which, nothing.drawn(0, seed, 2, 1), 2);
            if (which < 5) {
                int other = seedThat(8, which, 5, 4, 8, 0, 3, 2);
                Check.due("no letter, " + which, noLetter.drawn(0, other, 2, 1), 2);
                Check.due("nothing is sold, " + which, noLetter.drawn(0, other, 2, 3), 0);
            }
        }
        Check.sentence("terms 4: each, if it may");
        YearsForCoin alone = Check.told(0, "towns 1;");
        for (int seed = 0; seed < 50; seed++) {
            Check.due("nowhere to go", alone.drawn(0, seed, 60, 0), 0);
        }
        YearsForCoin far = Check.told(0, "towns 2;road 0 1 9;");
        for (int seed = 0; seed < 300; seed++) {
            int day = far.drawn(0, seed, 60, 0);
            Check.due("not behind day 99", day <= 99 && day % 9 == 0, true);
        }
    }

    private static void drawnSales() {
        Check.sentence("terms 4: 1 to 4: sell, a BUYER, below BUYERS, a LETTER, below LETTERS; each, if it may");
        YearsForCoin x = Check.told(0, "bank 5;ruler 2;poor 0 9 30 9;knight 0 0 10 9;poor 1 9 30 9;letter 2 10;letter 3 11;");
        for (int which = 0; which < 8; which++) {
            for (int b = 0; b < 3; b++) {
                for (int l = 0; l < 2; l++) {
                    int seed = seedThat(8, which, 3, b, 2, l);
                    // The third lives elsewhere, the second has not so many coins.
                    boolean sold = which >= 1 && which <= 4 && b < 2 && (b == 0 || l == 0);
                    int price = sold ? 10 + l : 0;
                    Check.due("sold by " + which, x.drawn(0, seed, 1, 3), sold ? 1 : 0);
                    Check.due("bank", x.drawn(0, seed, 1, 4), price / 2);
                    Check.due("ruler", x.drawn(0, seed, 1, 5), price / 5);
                    Check.due("church", x.drawn(0, seed, 1, 6), price - price / 2 - price / 5);
                    Check.due("bought", x.drawn(0, seed, 1, 40 + b), sold ? 2 + l : 0);
                    Check.due("means", x.drawn(0, seed, 1, 20 + b), (b == 1 ? 10 : 30) - price);
                }
            }
        }
    }

    private static void askedTwice() {
        Check.sentence("terms 2: A SEASON of a LAND begins .. all as told");
        YearsForCoin x = both("bank 3;ruler 2;road 0 1 4;knight 0 9 99 9;letter 5 10;", "sell 0 0;doubt;sin 0 3;sell 0 0;jubilee;shut 2;go 1;");
        int[] due = {4, 1, 4, 2, 6, 4, 10};
        for (int times = 0; times < 3; times++) {
            for (int what = 0; what < due.length; what++) {
                Check.due("state " + what, x.state(0, 0, 7, what), due[what]);
                Check.due("nothing is drawn " + what, x.drawn(0, 5, 0, what), 0);
                Check.due("at first " + what, x.state(0, 0, 0, what), 0);
            }
            Check.due("owes", x.state(0, 0, 7, 10), 12);
            Check.due("means", x.state(0, 0, 7, 20), 79);
            Check.due("fear", x.state(0, 0, 7, 30), 7);
            Check.due("bought", x.state(0, 0, 4, 40), 10);
            Check.due("owes at first", x.state(0, 0, 0, 10), 9);
            Check.due("half", x.after(0, 0, 1), 1);
        }
    }

    private static void after(String land, String season, int what, int due) {
        Check.due("after " + what + " of " + season + " in " + land, both(land, season).after(0, 0, what), due);
    }

    private static void payer() {
        Check.sentence("terms 5: PAYER: the BUYER who paid most coins, of several the least (nobody: none)");
        String land = "poor 0 99 99 9;".repeat(8) + "letter 1 0;letter 1 1;letter 1 2;letter 1 3;";
        after(land, "", 0, -1);
        after("", "doubt;", 0, -1);
        after(land, "sell 3 0;", 0, -1);
        after(land, "sell 7 1;", 0, 7);
        after(land, "sell 7 1;sell 0 1;", 0, 0);
        after(land, "sell 7 2;sell 0 1;", 0, 7);
        after(land, "sell 7 1;sell 0 3;sell 7 2;sell 7 0;", 0, 0);
        after(land, "sell 7 1;sell 0 3;sell 7 2;sell 7 1;", 0, 7);
        // Up to STOP alone, and a jubilee gives nothing back.
        after(land, "sell 1 1;sell 2 3;go 0;sell 3 3;sell 3 3;", 0, 2);
        after(land, "sell 1 1;go 0;sell 2 3;", 0, 1);
        after(land, "sell 5 1;jubilee;", 0, 5);
    }

    private static void half() {
        Check.sentence("terms 5: HALF: the least n of a STATE in which the church has half or more of what it has in the end");
        String land = "poor 0 99 99 9;letter 1 0;letter 1 1;letter 1 2;letter 1 3;";
        after(land, "", 1, 0);
        after(land, "doubt;doubt;", 1, 0);
        after(land, "sell 0 0;sell 0 0;", 1, 0);
        after(land, "sell 0 1;", 1, 1);
        after(land, "sell 0 1;sell 0 1;", 1, 1);
        after(land, "sell 0 1;sell 0 2;", 1, 2);
        after(land, "sell 0 2;sell 0 1;", 1, 1);
        after(land, "sell 0 1;doubt;sell 0 1;sell 0 1;", 1, 3);
        after(land, "doubt;doubt;sell 0 3;", 1, 3);
        after(land, "doubt;".repeat(39) + "go 0;", 1, 0);
        after("poor 0 99 99 9;letter 1 1;", "jubilee;".repeat(39) + "sell 0 0;", 1, 40);
        after(land, "sell 0 1;sell 0 1;go 0;sell 0 3;", 1, 1);
        // The church has nothing, whoever paid.
        after("bank 5;ruler 5;poor 0 99 99 9;letter 9 10;", "sell 0 0;sell 0 0;", 1, 0);
    }

    private static void ahead() {
        Check.sentence("terms 5: AHEAD: BUYERS (bits) who OWE less than nothing");
        after("knight 0 1 0 0;letter 1 0;", "sell 0 0;", 2, 0);
        after("knight 0 1 0 0;letter 2 0;", "sell 0 0;", 2, 1);
        after("knight 0 0 0 0;letter 1 0;", "", 2, 0);
        after("knight 0 0 0 0;letter 1 0;", "sell 0 0;sin 0 1;", 2, 0);
        after("knight 0 0 0 0;letter 1 0;", "sell 0 0;jubilee;", 2, 0);
        after("knight 0 0 0 0;letter 2 0;", "sell 0 0;sin 0 1;", 2, 1);
        after("poor 0 1 0 0;widow 0 1 0 0;doubter 0 1 0 0;letter 60 0;", "sell 0 0;sell 1 0;sell 2 0;", 2, 0);
        String all = "sell 0 0;sell 1 0;sell 2 0;sell 3 0;sell 4 0;sell 5 0;sell 6 0;sell 7 0;";
        after("knight 0 0 0 0;".repeat(8) + "letter 1 0;", all, 2, 255);
        after("knight 0 0 0 0;".repeat(8) + "letter 1 0;", "sell 7 0;", 2, 128);
        after("knight 0 0 0 0;".repeat(8) + "letter 1 0;", "sell 7 0;go 0;sell 0 0;", 2, 128);
    }

    private static void noSuchAfter() {
        Check.sentence("32: -2: there is none such (of either), or for another what");
        YearsForCoin x = both("", "");
        int[] due = {-1, 0, 0};
        for (int what : new int[] {MIN, -3, -2, -1, 0, 1, 2, 3, 4, 10, MAX}) {
            Check.due("after " + what, x.after(0, 0, what), what >= 0 && what < 3 ? due[what] : -2);
        }
        for (int odd : NOT_THERE) {
            for (int what = 0; what < 3; what++) {
                Check.due("land " + odd, x.after(odd, 0, what), -2);
                Check.due("season " + odd, x.after(0, odd, what), -2);
            }
        }
        Check.due("a land alone", Check.told(0, "").after(0, 0, 0), -2);
        Check.due("a season alone", Check.told(1, "").after(0, 0, 0), -2);
    }
}
