/** The edges of ways, tours, borders, rounds and centres: terms 3, 5, promises 12, 13, 22, 25 to 27, sentence by sentence. */
public final class WayBoundsTest {
    private static final int MAX = Integer.MAX_VALUE;
    private static final int MIN = Integer.MIN_VALUE;
    private static final int[] NOT_THERE = {-1, -2, 1, 2, 3, MAX, MIN};
    /** The longest land there is: 45 days from the first town to the last. */
    private static final String CHAIN = "towns 6;road 0 1 9;road 1 2 9;road 2 3 9;road 3 4 9;road 4 5 9;";

    public static void main(String[] args) {
        longestAndShortestDays();
        daysToOneself();
        noWay();
        waysAndShutTowns();
        noSuchTown();
        reachAtEveryDay();
        reachNumbers();
        tourUpToFortyDays();
        tourAtItsDays();
        tourNumbers();
        tourRow();
        tourOfNothing();
        tourOfAFullLand();
        tourAndShutTowns();
        borderOfOneTown();
        borderNumbers();
        borderTowns();
        roundOfAll();
        roundOfOne();
        roundThatCannotBe();
        noSuchRound();
        centreOfOne();
        centreOfAll();
        noCentre();
        Check.exit("WayBoundsTest");
    }

    private static void longestAndShortestDays() {
        Check.sentence("terms 3: DAYS from TOWN to TOWN: the fewest; terms 1: days, 1 .. 9; TOWNS, 1 .. 6");
        YearsForCoin x = Check.told(0, CHAIN);
        for (int from = 0; from < 6; from++) {
            for (int to = 0; to < 6; to++) {
                Check.due("days " + from + " " + to, x.days(0, from, to), 9 * Math.abs(from - to));
            }
        }
        Check.due("as many by the way", Check.told(0, "road 0 1 1;road 1 2 1;road 0 2 2;").days(0, 0, 2), 2);
        Check.due("one more by the way", Check.told(0, "road 0 1 1;road 1 2 2;road 0 2 2;").days(0, 0, 2), 2);
        Check.due("one less by the way", Check.told(0, "road 0 1 1;road 1 2 1;road 0 2 3;").days(0, 0, 2), 2);
        Check.due("one day", Check.told(0, "road 0 1 1;").days(0, 1, 0), 1);
        Check.due("nine days", Check.told(0, "road 0 1 9;").days(0, 1, 0), 9);
        // The way by all the others is a day less than the road.
        YearsForCoin y = Check.told(0, "towns 6;road 0 5 6;road 0 3 1;road 3 1 1;road 1 4 1;road 4 2 1;road 2 5 1;");
        Check.due("by all the others", y.days(0, 0, 5), 5);
        Check.due("and back", y.days(0, 5, 0), 5);
    }

    private static void daysToOneself() {
        Check.sentence("12: DAYS, from a TOWN to itself");
        for (int towns = 1; towns <= 6; towns++) {
            YearsForCoin x = Check.told(0, "towns " + towns + ";");
            for (int t = 0; t < 6; t++) {
                Check.due("days " + t + " of " + towns, x.days(0, t, t), t < towns ? 0 : -1);
            }
        }
    }

    private static void noWay() {
        Check.sentence("12: NONE: there is no way");
        YearsForCoin x = Check.told(0, "");
        YearsForCoin y = Check.told(0, "towns 6;road 0 1 1;road 1 2 1;road 3 4 1;road 4 5 1;");
        for (int from = 0; from < 6; from++) {
            for (int to = 0; to < 6; to++) {
                if (from < 3 && to < 3) {
                    Check.due("no roads", x.days(0, from, to), from == to ? 0 : -1);
                }
                Check.due("two parts", y.days(0, from, to), from / 3 == to / 3 ? Math.abs(from - to) : -1);
            }
        }
    }

    private static void waysAndShutTowns() {
        Check.sentence("terms 3: SHUT TOWNS can't be gone to");
        YearsForCoin x = Check.told(0, CHAIN + "shut 3;");
        Check.due("up to it", x.days(0, 0, 2), 18);
        Check.due("to it", x.days(0, 0, 3), -1);
        Check.due("through it", x.days(0, 0, 4), -1);
        Check.due("out of it", x.days(0, 3, 5), 18);
        Check.due("out of it", x.days(0, 3, 0), 27);
        Check.due("behind it", x.days(0, 5, 4), 9);
        YearsForCoin y = Check.told(0, CHAIN + "shut 3;road 2 4 9;");
        Check.due("past it", y.days(0, 0, 5), 36);
    }

    private static void noSuchTown() {
        Check.sentence("12: NONE: .. or there is none such (of any)");
        for (int towns = 1; towns <= 6; towns++) {
            YearsForCoin x = Check.told(0, "towns " + towns + ";");
            for (int t : new int[] {-1, towns, towns + 1, 6, 7, 36, MAX, MIN}) {
                Check.due("from " + t, x.days(0, t, 0), -1);
                Check.due("to " + t, x.days(0, 0, t), -1);
                Check.due("both " + t, x.days(0, t, t), -1);
            }
            for (int land : NOT_THERE) {
                Check.due("land " + land, x.days(land, 0, 0), -1);
            }
        }
    }

    private static void reachAtEveryDay() {
        Check.sentence("terms 5: REACH of d: TOWNS (bits) to which it is d days or less from TOWN 0");
        YearsForCoin x = Check.told(0, CHAIN);
        for (int d = 0; d <= 99; d++) {
            Check.due("reach " + d, x.reach(0, d), (1 << Math.min(6, d / 9 + 1)) - 1);
        }
        YearsForCoin y = Check.told(0, "towns 6;road 1 2 1;");
        Check.due("none but 0", y.reach(0, 99), 1);
        Check.due("one town", Check.told(0, "towns 1;").reach(0, 0), 1);
        Check.due("not the shut", Check.told(0, CHAIN + "shut 1;").reach(0, 99), 1);
    }

    private static void reachNumbers() {
        Check.sentence("26: REACH of d (bits). NONE: other d, or there is none such; terms 5: d, 0 .. 99");
        YearsForCoin x = Check.told(0, "road 0 1 1;road 1 2 9;");
        int[][] due = {{MIN, -1}, {-1, -1}, {0, 1}, {1, 3}, {9, 3}, {10, 7}, {98, 7}, {99, 7}, {100, -1}, {1000, -1}, {MAX, -1}};
        for (int[] of : due) {
            Check.due("reach " + of[0], x.reach(0, of[0]), of[1]);
        }
        for (int land : NOT_THERE) {
            Check.due("land " + land, x.reach(land, 0), -1);
        }
    }

    private static void tourUpToFortyDays() {
        Check.sentence("terms 3: TOUR of d days, 0 .. 40");
        String buyers = "poor 1 9 9 9;poor 2 9 9 9;poor 3 9 9 9;poor 4 9 9 9;poor 5 9 9 9;letter 1 5;";
        for (int last = 1; last <= 9; last++) {
            YearsForCoin x = Check.told(0, CHAIN + "road 4 5 " + last + ";" + buyers);
            for (int d = 0; d <= 40; d++) {
                int towns = d >= 36 + last ? 5 : d / 9;
                Check.due("coins in " + d + " days, the last road " + last, x.tour(0, d, 0, -1), 5 * Math.min(towns, 5));
            }
            for (int d : new int[] {-1, -2, 41, 45, 99, MAX, MIN}) {
                for (int k = -2; k < 2; k++) {
                    Check.due("tour of " + d + " days", x.tour(0, d, 0, k), -1);
                }
            }
        }
    }

    private static void tourAtItsDays() {
        Check.sentence("terms 3: d days at most (each stretch by the fewest days, selling to nobody on the way)");
        YearsForCoin x = Check.told(0, "road 0 1 3;road 1 2 4;poor 1 9 9 9;poor 2 9 9 9;poor 2 9 9 9;letter 1 5;");
        int[][] due = {{0, 0, 0}, {2, 0, 0}, {3, 5, 1}, {6, 5, 1}, {7, 15, 2}, {40, 15, 2}};
        for (int[] of : due) {
            Check.due("coins in " + of[0], x.tour(0, of[0], 0, -1), of[1]);
            Check.due("towns in " + of[0], x.tour(0, of[0], 0, -2), of[2]);
        }
        // Going to 2 first passes 1, and takes as many days as going to 1 and on.
        YearsForCoin y = Check.told(0, "road 0 1 3;road 1 2 4;poor 2 9 9 9;letter 1 5;");
        Check.due("past 1", y.tour(0, 7, 0, -1), 5);
        Check.due("2 alone", y.tour(0, 7, 0, -2), 1);
        Check.due("2 alone", y.tour(0, 7, 0, 0), 2);
        Check.due("one day less", y.tour(0, 6, 0, -1), 0);
    }

    private static void tourNumbers() {
        Check.sentence("13: NONE: other d, not so many, or there is none such (of either)");
        for (int many = 0; many <= 4; many++) {
            YearsForCoin x = Check.told(0, "letter 1 1;".repeat(many));
            for (int letter : new int[] {-1, -2, 0, 1, 2, 3, 4, 5, MAX, MIN}) {
                boolean there = letter >= 0 && letter < many;
                Check.due("letter " + letter + " of " + many, x.tour(0, 0, letter, -1), there ? 0 : -1);
                Check.due("letter " + letter + " of " + many, x.tour(0, 40, letter, -2), there ? 0 : -1);
                Check.due("letter " + letter + " of " + many, x.border(0, 40, letter, true), there ? 0 : -1);
                Check.due("letter " + letter + " of " + many, x.border(0, 0, letter, false), there ? 1 : -1);
            }
            for (int land : NOT_THERE) {
                Check.due("land " + land, x.tour(land, 0, 0, -1), -1);
                Check.due("land " + land, x.border(land, 0, 0, true), -1);
            }
        }
    }

    private static void tourRow() {
        Check.sentence("13: the k-th TOWN of the row; k -2: how many TOWNS are in it. NONE: .. not so many");
        StringBuilder land = new StringBuilder("towns 6;road 0 1 1;road 1 2 1;road 2 3 1;road 3 4 1;road 4 5 1;letter 1 5;");
        for (int many = 0; many <= 5; many++) {
            if (many > 0) {
                land.append("poor " + many + " 9 9 9;");
            }
            YearsForCoin x = Check.told(0, land.toString());
            Check.due("how many", x.tour(0, 5, 0, -2), many);
            for (int k = 0; k <= 8; k++) {
                Check.due("row " + k + " of " + many, x.tour(0, 5, 0, k), k < many ? k + 1 : -1);
            }
            for (int k : new int[] {-3, -4, MAX, MIN}) {
                Check.due("row " + k + " of " + many, x.tour(0, 5, 0, k), -1);
            }
        }
        Check.sentence("terms 3: of several the shortest, the first by numbers");
        YearsForCoin same = Check.told(0, "road 0 1 1;road 0 2 1;road 1 2 1;poor 1 9 9 9;poor 2 9 9 9;letter 1 5;");
        Check.due("in one day", same.tour(0, 1, 0, 0), 1);
        Check.due("in one day", same.tour(0, 1, 0, 1), -1);
        Check.due("in two days", same.tour(0, 2, 0, 0), 1);
        Check.due("in two days", same.tour(0, 2, 0, 1), 2);
        // A town where nobody takes it is not in the row.
        YearsForCoin few = Check.told(0, "road 0 1 1;road 0 2 1;road 1 2 1;poor 1 0 9 9;poor 2 9 9 9;letter 1 5;");
        Check.due("2 alone", few.tour(0, 40, 0, -2), 1);
        Check.due("2 alone", few.tour(0, 40, 0, 0), 2);
    }

    private static void tourOfNothing() {
        Check.sentence("terms 3: TOUR .. most coins; TOWN 0 is the first");
        for (String land : new String[] {"letter 1 1;", "towns 1;letter 1 1;", "poor 0 0 9 9;road 0 1 1;letter 1 1;",
            "poor 1 9 9 9;letter 1 1;", "poor 1 9 9 9;road 0 1 1;letter 1 0;", "poor 1 9 9 0;road 0 1 1;letter 1 1;"}) {
            YearsForCoin x = Check.told(0, land);
            for (int d : new int[] {0, 1, 40}) {
                Check.due("coins of " + land, x.tour(0, d, 0, -1), 0);
                Check.due("row of " + land, x.tour(0, d, 0, -2), 0);
                Check.due("row of " + land, x.tour(0, d, 0, 0), -1);
            }
        }
        Check.due("town 0 alone", Check.told(0, "towns 1;poor 0 9 9 9;letter 1 5;").tour(0, 0, 0, -1), 5);
    }

    private static void tourOfAFullLand() {
        Check.sentence("terms 3: in each all BUYERS who take it (one each)");
        String full = "towns 6;road 0 1 1;road 0 2 1;road 0 3 1;road 0 4 1;road 0 5 1;" + "letter 60 60;".repeat(4);
        for (int town = 0; town < 6; town++) {
            YearsForCoin x = Check.told(0, full + ("knight " + town + " 0 99 9;").repeat(8));
            Check.due("all in " + town, x.tour(0, 1, 3, -1), 480);
            Check.due("row", x.tour(0, 1, 3, -2), town == 0 ? 0 : 1);
            Check.due("row", x.tour(0, 1, 3, 0), town == 0 ? -1 : town);
            Check.due("in no day", x.tour(0, 0, 3, -1), town == 0 ? 480 : 0);
        }
        YearsForCoin all = Check.told(0, full + "knight 0 0 99 9;knight 1 0 99 9;knight 2 0 99 9;knight 3 0 99 9;knight 4 0 99 9;"
            + "knight 5 0 99 9;knight 5 0 59 9;knight 5 0 60 9;");
        // To each of five and back to 0, but for the last: 9 days.
        Check.due("all", all.tour(0, 9, 0, -1), 420);
        Check.due("all but one", all.tour(0, 8, 0, -1), 360);
        Check.due("row of all", all.tour(0, 9, 0, -2), 5);
        Check.due("last of the row", all.tour(0, 9, 0, 4), 5);
        Check.due("row of all but one", all.tour(0, 8, 0, -2), 4);
    }

    private static void tourAndShutTowns() {
        Check.sentence("terms 3: SHUT TOWNS can't be gone to, nor anything sold there");
        String land = "road 0 1 1;road 1 2 1;poor 0 9 9 9;poor 1 9 9 9;poor 2 9 9 9;letter 1 5;";
        int[] due = {15, 10, 5, 0, 10, 5, 5, 0};
        for (int shut = 0; shut < 8; shut++) {
            StringBuilder text = new StringBuilder(land);
            for (int t = 0; t < 3; t++) {
                text.append((shut >> t & 1) == 1 ? "shut " + t + ";" : "");
            }
            Check.due("shut " + shut, Check.told(0, text.toString()).tour(0, 40, 0, -1), due[shut]);
        }
    }

    private static void borderOfOneTown() {
        Check.sentence("22: NONE: no TOWN but TOWN 0");
        for (int d : new int[] {0, 1, 40}) {
            YearsForCoin one = Check.told(0, "towns 1;poor 0 9 9 9;letter 1 5;");
            Check.due("one town", one.border(0, d, 0, false), -1);
            Check.due("one town", one.border(0, d, 0, true), -1);
            YearsForCoin two = Check.told(0, "towns 2;road 0 1 1;poor 1 9 9 9;letter 1 5;");
            Check.due("two towns", two.border(0, d, 0, false), 1);
            Check.due("two towns", two.border(0, d, 0, true), d == 0 ? 0 : 5);
        }
    }

    private static void borderNumbers() {
        Check.sentence("22: BORDER of d, 0 .. 40. NONE: .. other d");
        String buyers = "poor 5 9 9 9;letter 1 5;";
        YearsForCoin forty = Check.told(0, CHAIN + "road 4 5 4;" + buyers);
        int[][] due = {{MIN, -1, -1}, {-1, -1, -1}, {0, 1, 0}, {39, 1, 0}, {40, 1, 5}, {41, -1, -1}, {99, -1, -1}, {MAX, -1, -1}};
        for (int[] of : due) {
            Check.due("border " + of[0], forty.border(0, of[0], 0, false), of[1]);
            Check.due("border coins " + of[0], forty.border(0, of[0], 0, true), of[2]);
        }
    }

    private static void borderTowns() {
        Check.sentence("terms 5: the TOWN but TOWN 0 by whose being SHUT (too) the TOUR brings least, of several the least");
        for (int town = 1; town < 6; town++) {
            YearsForCoin x = Check.told(0, "towns 6;road 0 1 1;road 0 2 1;road 0 3 1;road 0 4 1;road 0 5 1;poor 0 9 9 9;letter 1 5;"
                + "poor " + town + " 9 9 9;");
            Check.due("the only one with a buyer", x.border(0, 40, 0, false), town);
            Check.due("what he pays", x.border(0, 40, 0, true), 5);
        }
        YearsForCoin same = Check.told(0, "towns 6;road 0 5 1;road 0 4 1;poor 4 9 9 9;poor 5 9 9 9;letter 1 5;");
        Check.due("of several the least", same.border(0, 40, 0, false), 4);
        YearsForCoin shut = Check.told(0, "towns 6;road 0 5 1;road 0 4 1;poor 4 9 9 9;poor 5 9 9 9;letter 1 5;shut 4;");
        Check.due("4 is shut", shut.border(0, 40, 0, false), 5);
        Check.due("4 is shut", shut.border(0, 40, 0, true), 5);
        YearsForCoin all = Check.told(0, "road 0 1 1;road 0 2 1;poor 1 9 9 9;poor 2 9 9 9;letter 1 5;shut 1;shut 2;");
        Check.due("all are shut", all.border(0, 40, 0, false), 1);
        Check.due("all are shut", all.border(0, 40, 0, true), 0);
        YearsForCoin zero = Check.told(0, "road 0 1 1;poor 0 9 9 9;letter 1 5;");
        Check.due("not town 0", zero.border(0, 40, 0, false), 1);
        Check.due("not town 0", zero.border(0, 40, 0, true), 0);
    }

    private static void round(YearsForCoin x, int days, int... row) {
        Check.due("days", x.round(0, -1), days);
        for (int k = 0; k < 8; k++) {
            Check.due("row " + k, x.round(0, k), k < row.length ? row[k] : -1);
        }
        for (int k : new int[] {-2, -3, MAX, MIN}) {
            Check.due("row " + k, x.round(0, k), -1);
        }
    }

    private static void roundOfAll() {
        Check.sentence("25: ROUND: the days (k NONE), or the k-th TOWN. NONE: .. not so many");
        round(Check.told(0, CHAIN), 45, 1, 2, 3, 4, 5);
        round(Check.told(0, "towns 6;road 0 1 9;road 0 2 9;road 0 3 9;road 0 4 9;road 0 5 9;"), 81, 1, 2, 3, 4, 5);
        round(Check.told(0, "towns 6;road 0 5 1;road 5 4 1;road 4 3 1;road 3 2 1;road 2 1 1;"), 5, 5, 4, 3, 2, 1);
        round(Check.told(0, "road 0 1 1;road 0 2 1;road 1 2 1;"), 2, 1, 2);
        round(Check.told(0, "road 0 1 2;road 0 2 1;road 1 2 1;"), 2, 2, 1);
        round(Check.told(0, "towns 2;road 0 1 9;"), 9, 1);
    }

    private static void roundOfOne() {
        Check.sentence("terms 5: ROUND: all TOWNS that are not SHUT, and can be come to from TOWN 0");
        round(Check.told(0, "towns 1;"), 0);
        round(Check.told(0, "towns 1;shut 0;"), 0);
        round(Check.told(0, ""), 0);
        round(Check.told(0, "road 1 2 1;"), 0);
        round(Check.told(0, "road 0 1 1;road 1 2 1;shut 1;"), 0);
        round(Check.told(0, "road 0 1 1;road 1 2 1;shut 2;"), 1, 1);
        round(Check.told(0, "towns 6;road 0 5 3;road 1 2 1;road 3 4 1;"), 3, 5);
    }

    private static void roundThatCannotBe() {
        Check.sentence("25: NONE: it can't be done (TOWN 0, being SHUT, can't be gone back to)");
        round(Check.told(0, "road 0 1 1;road 0 2 1;"), 3, 1, 2);
        round(Check.told(0, "road 0 1 1;road 0 2 1;shut 0;"), -1);
        round(Check.told(0, "road 0 1 1;road 0 2 1;road 1 2 9;shut 0;"), 10, 1, 2);
        round(Check.told(0, "road 0 1 1;road 1 2 1;shut 0;"), 2, 1, 2);
        round(Check.told(0, "road 0 1 1;shut 0;"), 1, 1);
        round(Check.told(0, "road 0 1 1;road 0 2 1;shut 0;shut 2;"), 1, 1);
    }

    private static void noSuchRound() {
        Check.sentence("25, 27: NONE: .. or there is none such");
        YearsForCoin x = Check.told(0, "road 0 1 1;road 1 2 1;");
        for (int land : NOT_THERE) {
            Check.due("land " + land, x.round(land, -1), -1);
            Check.due("land " + land, x.round(land, 0), -1);
            Check.due("land " + land, x.centre(land, false), -1);
            Check.due("land " + land, x.centre(land, true), -1);
        }
    }

    private static void centre(String land, int town, int days) {
        YearsForCoin x = Check.told(0, land);
        Check.due("centre of " + land, x.centre(0, false), town);
        Check.due("days of " + land, x.centre(0, true), days);
    }

    private static void centreOfOne() {
        Check.sentence("terms 5: CENTRE: the TOWN that is not SHUT from which the furthest of all others ..");
        centre("towns 1;", 0, 0);
        for (int open = 0; open < 6; open++) {
            StringBuilder land = new StringBuilder(CHAIN);
            for (int t = 0; t < 6; t++) {
                land.append(t == open ? "" : "shut " + t + ";");
            }
            centre(land.toString(), open, 0);
        }
    }

    private static void centreOfAll() {
        Check.sentence("terms 5: CENTRE: .. is fewest days off, of several the least");
        centre(CHAIN, 2, 27);
        centre("towns 2;road 0 1 9;", 0, 9);
        centre("road 0 1 1;road 1 2 1;road 0 2 1;", 0, 1);
        centre("road 0 1 2;road 1 2 1;road 0 2 1;", 2, 1);
        centre(CHAIN + "shut 0;", 3, 18);
        centre(CHAIN + "shut 5;", 2, 18);
        centre("towns 6;road 5 0 1;road 5 1 1;road 5 2 1;road 5 3 1;road 5 4 1;", 5, 1);
    }

    private static void noCentre() {
        Check.sentence("27: NONE: from none; terms 5: (all must be come to)");
        centre("", -1, -1);
        centre("towns 2;", -1, -1);
        centre("road 0 1 1;", -1, -1);
        centre("road 0 1 1;shut 2;", 0, 1);
        centre("towns 1;shut 0;", -1, -1);
        centre("shut 0;shut 1;shut 2;road 0 1 1;road 1 2 1;", -1, -1);
        centre(CHAIN + "shut 2;", -1, -1);
    }
}
