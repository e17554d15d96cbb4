/** Promises 10 to 14, 22 to 29, 34: what follows from a land as told. */
public final class LandsTest {
    private static final int MAX = Integer.MAX_VALUE;
    private static final int MIN = Integer.MIN_VALUE;

    public static void main(String[] args) {
        takes();
        prices();
        days();
        firstCalls();
        shutTowns();
        tours();
        tourRows();
        borders();
        rounds();
        centres();
        holds();
        enough();
        until();
        poorer();
        wrongNumbers();
        Check.exit("LandsTest");
    }

    private static void takes(YearsForCoin x, int buyer, int years, int highest) {
        for (int price = 0; price <= 99; price++) {
            Check.due("takes " + buyer + " " + years + " " + price, x.takes(0, buyer, years, price), price <= highest ? 1 : 0);
        }
    }

    private static void takes() {
        YearsForCoin x = Check.told(0, "poor 0 8 20 3;poor 0 0 99 9;knight 1 0 12 4;knight 0 5 99 1;"
            + "widow 1 6 30 2;widow 2 0 50 9;doubter 1 9 25 4;doubter 0 99 10 9;");
        takes(x, 0, 1, 3);
        takes(x, 0, 6, 18);
        takes(x, 0, 7, 20);
        takes(x, 0, 60, 20);
        takes(x, 1, 5, -1);
        takes(x, 2, 1, 4);
        takes(x, 2, 60, 12);
        takes(x, 3, 60, 60);
        takes(x, 4, 5, 20);
        takes(x, 4, 6, 24);
        takes(x, 4, 60, 24);
        takes(x, 5, 5, -1);
        takes(x, 6, 5, 10);
        takes(x, 6, 1, 2);
        takes(x, 6, 60, 18);
        takes(x, 7, 60, 10);
        YearsForCoin y = Check.told(0, "poor 0 9 9 0;knight 0 9 9 0;widow 0 9 9 0;doubter 0 9 9 0;poor 0 9 0 9;doubter 0 1 9 1;");
        for (int b = 0; b < 5; b++) {
            takes(y, b, 9, 0);
        }
        takes(y, 5, 9, 0);
        for (int bad : new int[] {0, 61, -1, MAX, MIN}) {
            Check.due("takes years", x.takes(0, 0, bad, 1), -1);
        }
        for (int bad : new int[] {-1, 100, MAX, MIN}) {
            Check.due("takes price", x.takes(0, 0, 5, bad), -1);
        }
        Check.due("takes no buyer", x.takes(0, 8, 5, 1), -1);
        Check.due("takes no buyer", x.takes(0, -1, 5, 1), -1);
        Check.due("takes no buyer", y.takes(0, 6, 5, 1), -1);
        Check.due("takes no land", x.takes(1, 0, 5, 1), -1);
    }

    private static void prices() {
        // The first pays up to 9, the second up to 6, the knight up to 18, the widow up to 4; of the doubter nothing comes in.
        YearsForCoin x = Check.told(0, "shut 2;poor 0 9 10 1;poor 2 9 6 1;knight 1 0 30 2;widow 1 2 30 1;doubter 1 0 30 9;");
        Check.due("priced poor", x.priced(0, 9, 0, false), 6);
        Check.due("priced poor", x.priced(0, 9, 0, true), 12);
        Check.due("priced knight", x.priced(0, 9, 1, false), 18);
        Check.due("priced knight", x.priced(0, 9, 1, true), 18);
        Check.due("priced widow", x.priced(0, 9, 2, false), 4);
        Check.due("priced widow", x.priced(0, 9, 2, true), 4);
        Check.due("priced doubter", x.priced(0, 9, 3, false), 0);
        Check.due("priced doubter", x.priced(0, 9, 3, true), 0);
        // 18 comes in at 6, 9 and 18.
        Check.due("priced all", x.priced(0, 9, -1, false), 6);
        Check.due("priced all", x.priced(0, 9, -1, true), 18);
        Check.due("ranked", x.ranked(0, 9), 34);
        // 1 year: 1, 1, 2, 2 are the most they pay.
        Check.due("priced all, 1 year", x.priced(0, 1, -1, false), 1);
        Check.due("priced all, 1 year", x.priced(0, 1, -1, true), 4);
        Check.due("ranked, 1 year", x.ranked(0, 1), 6);
        int[] sold = {4, 4, 4, 4, 4, 3, 3, 2, 2, 2, 1};
        for (int price = 0; price < 100; price++) {
            Check.due("sold " + price, x.sold(0, 9, price), price <= 10 ? sold[price] : price <= 18 ? 1 : 0);
        }
        YearsForCoin y = Check.told(0, "knight 0 0 99 9;knight 0 0 99 9;");
        Check.due("dearest", y.priced(0, 60, 1, false), 99);
        Check.due("dearest", y.priced(0, 60, -1, true), 198);
        Check.due("dearest sold", y.sold(0, 60, 99), 2);
        YearsForCoin none = Check.told(0, "");
        Check.due("nobody", none.priced(0, 60, -1, false), 0);
        Check.due("nobody", none.priced(0, 60, -1, true), 0);
        Check.due("nobody", none.ranked(0, 60), 0);
        Check.due("nobody", none.sold(0, 60, 0), 0);
    }

    private static void days() {
        YearsForCoin x = Check.told(0, "towns 6;road 0 1 4;road 1 2 1;road 0 2 2;road 2 3 9;road 3 4 1;");
        int[][] due = {
            {0, 3, 2, 11, 12, -1}, {3, 0, 1, 10, 11, -1}, {2, 1, 0, 9, 10, -1},
            {11, 10, 9, 0, 1, -1}, {12, 11, 10, 1, 0, -1}, {-1, -1, -1, -1, -1, 0}};
        for (int from = 0; from < 6; from++) {
            for (int to = 0; to < 6; to++) {
                Check.due("days " + from + " " + to, x.days(0, from, to), due[from][to]);
            }
        }
        int[] reach = {1, 1, 5, 7, 7, 7, 7, 7, 7, 7, 7, 15, 31, 31};
        for (int d = 0; d < 100; d++) {
            Check.due("reach " + d, x.reach(0, d), reach[Math.min(d, 13)]);
        }
        Check.due("days no town", x.days(0, 0, 6), -1);
        Check.due("days no town", x.days(0, 6, 0), -1);
        Check.due("days no town", x.days(0, -1, 0), -1);
        Check.due("days no town", x.days(0, 0, -1), -1);
    }

    /** No call lives on what another one has worked out before it. */
    private static void firstCalls() {
        String land = "road 0 1 1;road 1 2 2;poor 2 9 9 9;letter 1 5;";
        Check.due("reach first", Check.told(0, land).reach(0, 1), 3);
        Check.due("centre first", Check.told(0, land).centre(0, true), 2);
        Check.due("round first", Check.told(0, land).round(0, -1), 3);
        Check.due("tour first", Check.told(0, land).tour(0, 3, 0, -1), 5);
        YearsForCoin x = Check.told(0, land);
        Check.tell(x, 0, "towns 2;road 0 1 5;letter 1 5;");
        for (int i = 0; i < 2; i++) {
            Check.due("reach by turns", x.reach(0, 1), 3);
            Check.due("reach by turns", x.reach(1, 1), 1);
            Check.due("days by turns", x.days(0, 1, 0), 1);
            Check.due("days by turns", x.days(1, 1, 0), 5);
            Check.due("centre by turns", x.centre(0, true), 2);
            Check.due("centre by turns", x.centre(1, true), 5);
            Check.due("tour by turns", x.tour(0, 9, 0, -1), 5);
            Check.due("tour by turns", x.tour(1, 9, 0, -1), 0);
        }
    }

    private static void shutTowns() {
        YearsForCoin x = Check.told(0, "towns 4;road 0 1 1;road 1 2 1;road 0 2 5;road 2 3 1;shut 1;shut 3;");
        Check.due("round a shut town", x.days(0, 0, 2), 5);
        Check.due("to a shut town", x.days(0, 0, 1), -1);
        Check.due("out of a shut town", x.days(0, 1, 0), 1);
        Check.due("out of a shut town", x.days(0, 1, 2), 1);
        Check.due("out of a shut town", x.days(0, 3, 0), 6);
        Check.due("to where one is", x.days(0, 3, 3), 0);
        Check.due("reach", x.reach(0, 99), 5);
        Check.due("round", x.round(0, -1), 5);
        Check.due("round", x.round(0, 0), 2);
        Check.due("round", x.round(0, 1), -1);
        YearsForCoin y = Check.told(0, "road 0 1 1;road 0 2 2;shut 0;");
        Check.due("not through town 0", y.days(0, 1, 2), -1);
        Check.due("from town 0", y.days(0, 0, 2), 2);
        Check.due("not back to town 0", y.days(0, 1, 0), -1);
        Check.due("reach", y.reach(0, 1), 3);
        Check.due("no round", y.round(0, -1), -1);
        Check.due("no round", y.round(0, 0), -1);
        Check.due("no centre", y.centre(0, false), -1);
        Check.due("no centre", y.centre(0, true), -1);
    }

    private static void tours() {
        // Town 0: 9; town 1: 18; town 2: 9. 0 to 1 takes 2 days, 1 to 2 takes 2, 0 to 2 takes 4.
        String land = "road 0 1 2;road 1 2 2;road 0 2 5;poor 0 8 20 3;widow 1 6 30 2;knight 2 0 12 4;"
            + "doubter 1 9 25 4;letter 5 9;letter 1 60;letter 1 0;";
        YearsForCoin x = Check.told(0, land);
        int[] coins = {9, 9, 27, 27, 36, 36};
        int[] length = {0, 0, 1, 1, 2, 2};
        for (int d = 0; d <= 40; d++) {
            int i = Math.min(d, 5);
            Check.due("tour coins " + d, x.tour(0, d, 0, -1), coins[i]);
            Check.due("tour length " + d, x.tour(0, d, 0, -2), length[i]);
            Check.due("tour first " + d, x.tour(0, d, 0, 0), length[i] > 0 ? 1 : -1);
            Check.due("tour second " + d, x.tour(0, d, 0, 1), length[i] > 1 ? 2 : -1);
            Check.due("tour third " + d, x.tour(0, d, 0, 2), -1);
            Check.due("nobody takes it", x.tour(0, d, 1, -1), 0);
            Check.due("nobody takes it", x.tour(0, d, 1, -2), 0);
            Check.due("for nothing", x.tour(0, d, 2, -1), 0);
            Check.due("for nothing", x.tour(0, d, 2, -2), 0);
        }
        YearsForCoin y = Check.told(0, land + "shut 1;");
        Check.due("only 0", y.tour(0, 4, 0, -1), 9);
        Check.due("the other road", y.tour(0, 5, 0, -1), 18);
        Check.due("the other road", y.tour(0, 5, 0, 0), 2);
        YearsForCoin z = Check.told(0, land + "shut 0;");
        Check.due("nothing in a shut town", z.tour(0, 0, 0, -1), 0);
        Check.due("out of a shut town", z.tour(0, 4, 0, -1), 27);
        Check.due("no town by the way", z.tour(0, 3, 0, -2), 1);
        for (int bad : new int[] {-1, 41, MAX, MIN}) {
            Check.due("tour days", x.tour(0, bad, 0, -1), -1);
            Check.due("border days", x.border(0, bad, 0, false), -1);
        }
        for (int bad : new int[] {-1, 3, MAX, MIN}) {
            Check.due("tour letter", x.tour(0, 4, bad, -1), -1);
            Check.due("border letter", x.border(0, 4, bad, true), -1);
        }
        for (int bad : new int[] {-3, 2, 6, MAX, MIN}) {
            Check.due("tour row", x.tour(0, 4, 0, bad), -1);
        }
    }

    private static void tourRows() {
        // The same coins are in 3 alone as in 1 and 2 together: the shorter row, though it takes more days.
        YearsForCoin x = Check.told(0, "towns 4;road 0 1 1;road 1 2 1;road 0 3 4;poor 1 9 9 9;poor 2 9 9 9;poor 3 9 9 9;poor 3 9 9 9;letter 1 5;");
        Check.due("shortest row", x.tour(0, 5, 0, -1), 10);
        Check.due("shortest row", x.tour(0, 5, 0, -2), 1);
        Check.due("shortest row", x.tour(0, 5, 0, 0), 3);
        Check.due("few days", x.tour(0, 3, 0, -2), 2);
        // All orders bring the same: first by numbers, whatever the days.
        YearsForCoin y = Check.told(0, "road 0 1 9;road 0 2 1;road 1 2 1;poor 1 9 9 9;poor 2 9 9 9;letter 1 5;");
        Check.due("first by numbers", y.tour(0, 40, 0, 0), 1);
        Check.due("first by numbers", y.tour(0, 40, 0, 1), 2);
        Check.due("the only row", y.tour(0, 2, 0, 0), 2);
        Check.due("the only row", y.tour(0, 2, 0, 1), 1);
        Check.due("the way to 1 leads by 2", y.tour(0, 3, 0, 0), 1);
        YearsForCoin all = Check.told(0, "towns 6;road 0 1 1;road 1 2 1;road 2 3 1;road 3 4 1;road 4 5 1;"
            + "poor 0 1 9 9;poor 1 1 9 9;poor 2 1 9 9;poor 3 1 9 9;poor 4 1 9 9;poor 5 1 9 9;letter 1 1;");
        for (int d = 0; d <= 8; d++) {
            Check.due("as far as it goes", all.tour(0, d, 0, -1), Math.min(d, 5) + 1);
            Check.due("as far as it goes", all.tour(0, d, 0, -2), Math.min(d, 5));
        }
        Check.due("last town", all.tour(0, 5, 0, 4), 5);
    }

    private static void borders() {
        String land = "road 0 1 2;road 1 2 2;road 0 2 5;poor 0 8 20 3;widow 1 6 30 2;knight 2 0 12 4;doubter 1 9 25 4;letter 5 9;";
        YearsForCoin x = Check.told(0, land);
        Check.due("no difference: the least", x.border(0, 1, 0, false), 1);
        Check.due("no difference", x.border(0, 1, 0, true), 0);
        Check.due("town 1", x.border(0, 4, 0, false), 1);
        Check.due("town 1", x.border(0, 4, 0, true), 27);
        Check.due("another way", x.border(0, 5, 0, true), 18);
        YearsForCoin y = Check.told(0, land + "shut 1;");
        Check.due("town 2, 1 being shut", y.border(0, 5, 0, false), 2);
        Check.due("town 2, 1 being shut", y.border(0, 5, 0, true), 9);
        Check.due("a shut one is the least", y.border(0, 4, 0, false), 1);
        YearsForCoin one = Check.told(0, "towns 1;letter 1 1;");
        Check.due("no other town", one.border(0, 5, 0, false), -1);
        Check.due("no other town", one.border(0, 5, 0, true), -1);
        YearsForCoin two = Check.told(0, "towns 2;shut 1;letter 1 1;");
        Check.due("one other town", two.border(0, 5, 0, false), 1);
        Check.due("one other town", two.border(0, 5, 0, true), 0);
    }

    private static void rounds() {
        YearsForCoin star = Check.told(0, "towns 4;road 0 1 3;road 0 2 1;road 0 3 1;");
        Check.due("days", star.round(0, -1), 7);
        int[] row = {2, 3, 1};
        for (int k = 0; k < 3; k++) {
            Check.due("row", star.round(0, k), row[k]);
        }
        Check.due("not so many", star.round(0, 3), -1);
        Check.due("not so many", star.round(0, -2), -1);
        YearsForCoin apart = Check.told(0, "towns 5;road 0 2 3;road 1 3 1;");
        Check.due("only those that can be come to", apart.round(0, -1), 3);
        Check.due("only those that can be come to", apart.round(0, 0), 2);
        Check.due("only those that can be come to", apart.round(0, 1), -1);
        YearsForCoin ring = Check.told(0, "towns 6;road 0 1 1;road 1 2 1;road 2 3 1;road 3 4 1;road 4 5 1;road 5 0 1;");
        Check.due("ring", ring.round(0, -1), 5);
        for (int k = 0; k < 5; k++) {
            Check.due("ring", ring.round(0, k), k + 1);
        }
        YearsForCoin alone = Check.told(0, "towns 1;");
        Check.due("nowhere to go", alone.round(0, -1), 0);
        Check.due("nowhere to go", alone.round(0, 0), -1);
        YearsForCoin shut = Check.told(0, "shut 0;shut 1;road 0 1 1;road 1 2 1;");
        Check.due("nowhere to go", shut.round(0, -1), 0);
    }

    private static void centres() {
        YearsForCoin chain = Check.told(0, "towns 4;road 0 1 2;road 1 2 2;road 2 3 2;");
        Check.due("centre", chain.centre(0, false), 1);
        Check.due("centre", chain.centre(0, true), 4);
        YearsForCoin shut = Check.told(0, "towns 4;road 0 1 2;road 1 2 2;road 2 3 2;shut 0;");
        Check.due("centre of three", shut.centre(0, false), 2);
        Check.due("centre of three", shut.centre(0, true), 2);
        YearsForCoin cut = Check.told(0, "towns 4;road 0 1 2;road 1 2 2;road 2 3 2;shut 2;");
        Check.due("not all can be come to", cut.centre(0, false), -1);
        YearsForCoin apart = Check.told(0, "");
        Check.due("no roads", apart.centre(0, true), -1);
        YearsForCoin alone = Check.told(0, "towns 2;shut 0;");
        Check.due("one alone", alone.centre(0, false), 1);
        Check.due("one alone", alone.centre(0, true), 0);
        YearsForCoin all = Check.told(0, "towns 2;shut 0;shut 1;road 0 1 1;");
        Check.due("all shut", all.centre(0, false), -1);
        Check.due("all shut", all.centre(0, true), -1);
    }

    private static void hold(YearsForCoin x, int buyer, int years, int coins, int... row) {
        Check.due("hold years " + buyer, x.hold(0, buyer, -1), years);
        Check.due("hold coins " + buyer, x.hold(0, buyer, -2), coins);
        for (int l = 0; l < row.length; l++) {
            Check.due("hold " + buyer + " of " + l, x.hold(0, buyer, l), row[l]);
        }
        Check.due("hold no letter", x.hold(0, buyer, row.length), -1);
        Check.due("hold no letter", x.hold(0, buyer, -3), -1);
        Check.due("hold no letter", x.hold(0, buyer, MAX), -1);
    }

    private static void holds() {
        YearsForCoin x = Check.told(0, "poor 0 8 20 0;poor 0 8 9 0;poor 0 8 3 9;poor 0 0 99 9;knight 0 99 99 0;letter 5 9;letter 3 4;");
        hold(x, 0, 8, 12, 0, 3);
        hold(x, 1, 6, 8, 0, 2);
        hold(x, 2, 0, 0, 0, 0);
        hold(x, 3, 0, 0, 0, 0);
        // 27 years for 36 by nine of the second, then seven of the first for 63.
        hold(x, 4, 62, 99, 7, 9);
        YearsForCoin y = Check.told(0, "poor 0 6 6 0;letter 2 2;letter 3 3;letter 1 1;letter 6 6;");
        hold(y, 0, 6, 6, 0, 0, 0, 1);
        YearsForCoin z = Check.told(0, "poor 0 10 99 0;letter 1 0;letter 1 1;");
        hold(z, 0, 10, 1, 9, 1);
        YearsForCoin none = Check.told(0, "poor 0 10 99 0;");
        hold(none, 0, 0, 0);
        YearsForCoin dearer = Check.told(0, "poor 0 4 50 0;letter 4 7;letter 2 3;letter 2 3;");
        hold(dearer, 0, 4, 6, 0, 0, 2);
    }

    private static void enough() {
        YearsForCoin x = Check.told(0, "poor 0 9 0 0;poor 0 0 0 0;poor 0 99 0 0;letter 5 9;letter 3 4;");
        Check.due("enough", x.enough(0, 0), 12);
        Check.due("owes nothing", x.enough(0, 1), 0);
        Check.due("by none", x.enough(0, 2), -1);
        Check.due("no buyer", x.enough(0, 3), -1);
        Check.due("no buyer", x.enough(0, -1), -1);
        Check.due("no land", x.enough(1, 0), -1);
        YearsForCoin y = Check.told(0, "poor 0 99 0 0;letter 11 60;");
        Check.due("nine of one", y.enough(0, 0), 540);
        YearsForCoin z = Check.told(0, "poor 0 1 0 0;poor 0 0 0 0;");
        Check.due("no letters", z.enough(0, 0), -1);
        Check.due("no letters asked for", z.enough(0, 1), 0);
    }

    private static void until() {
        // Letter 0: 5 years for 9; letter 1: 1 year for 0; letter 2: 1 year for 60; letter 3: 60 years for 60.
        YearsForCoin x = Check.told(0, "poor 0 8 20 3;widow 1 6 30 9;knight 2 0 99 9;doubter 1 9 25 9;poor 0 0 20 9;poor 0 9 5 9;"
            + "letter 5 9;letter 1 0;letter 1 60;letter 60 60;");
        int[] first = {2, 9, 8, 6, 0, 0};
        for (int b = 0; b < 6; b++) {
            Check.due("until " + b, x.until(0, b, 0), first[b]);
            Check.due("until " + b + " for nothing", x.until(0, b, 1), b == 4 ? 0 : -1);
            Check.due("until " + b + " too dear", x.until(0, b, 2), 0);
        }
        Check.due("to the last", x.until(0, 2, 3), 9);
        Check.due("no letter", x.until(0, 0, 4), -1);
        Check.due("no letter", x.until(0, 0, -1), -1);
        Check.due("no buyer", x.until(0, 6, 0), -1);
        Check.due("no buyer", x.until(0, -1, 0), -1);
        Check.due("no land", x.until(-1, 0, 0), -1);
    }

    private static void poorer() {
        Check.due("none", Check.told(0, "").poorer(0), 0);
        Check.due("dearer for more", Check.told(0, "letter 5 9;letter 3 4;").poorer(0), 0);
        Check.due("fewer years", Check.told(0, "letter 5 9;letter 6 9;").poorer(0), 1);
        Check.due("greater price", Check.told(0, "letter 5 9;letter 5 8;letter 5 10;").poorer(0), 5);
        Check.due("alike", Check.told(0, "letter 5 9;letter 5 9;").poorer(0), 0);
        Check.due("alike, and both poorer", Check.told(0, "letter 5 9;letter 5 9;letter 6 8;letter 1 1;").poorer(0), 3);
    }

    /** Of lands that are not there every answer is NONE. */
    private static void wrongNumbers() {
        YearsForCoin x = Check.told(0, "poor 0 1 1 1;letter 1 1;");
        for (int land : new int[] {-1, 1, 2, MAX, MIN}) {
            Check.due("no land", x.priced(land, 5, -1, false), -1);
            Check.due("no land", x.days(land, 0, 0), -1);
            Check.due("no land", x.tour(land, 5, 0, -1), -1);
            Check.due("no land", x.hold(land, 0, -1), -1);
            Check.due("no land", x.border(land, 5, 0, false), -1);
            Check.due("no land", x.ranked(land, 5), -1);
            Check.due("no land", x.sold(land, 5, 5), -1);
            Check.due("no land", x.round(land, -1), -1);
            Check.due("no land", x.reach(land, 5), -1);
            Check.due("no land", x.centre(land, false), -1);
            Check.due("no land", x.poorer(land), -1);
            Check.due("no buyer", land == 0 ? -1 : x.hold(0, land, -1), -1);
        }
        for (int bad : new int[] {0, 61, -1, MAX, MIN}) {
            Check.due("priced years", x.priced(0, bad, 0, true), -1);
            Check.due("ranked years", x.ranked(0, bad), -1);
            Check.due("sold years", x.sold(0, bad, 5), -1);
        }
        for (int bad : new int[] {-1, 100, MAX, MIN}) {
            Check.due("sold price", x.sold(0, 5, bad), -1);
            Check.due("reach days", x.reach(0, bad), -1);
        }
        for (int bad : new int[] {-2, 4, MAX, MIN}) {
            Check.due("priced kind", x.priced(0, 5, bad, false), -1);
        }
    }
}
