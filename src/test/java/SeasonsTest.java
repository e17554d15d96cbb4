/** Promises 8, 9, 21, 32: seasons told and drawn, in a land. */
public final class SeasonsTest {
    private static final int MAX = Integer.MAX_VALUE;
    private static final int MIN = Integer.MIN_VALUE;
    private static final String LAND = "bank 2;ruler 3;road 0 1 2;road 1 2 9;poor 0 8 20 3;widow 1 6 30 2;knight 0 1 40 4;"
        + "doubter 0 9 25 4;letter 5 9;letter 60 0;";

    public static void main(String[] args) {
        sales();
        sharesAreCut();
        whatCannotBe();
        goingAndShutting();
        lastDay();
        sins();
        doubts();
        jubilees();
        states();
        after();
        draws();
        Check.exit("SeasonsTest");
    }

    private static YearsForCoin both(String land, String season) {
        YearsForCoin x = Check.told(0, land);
        Check.due("season", Check.tell(x, 1, season), 0);
        return x;
    }

    private static void stops(String land, String season, int stop) {
        Check.due("stop of " + season + " in " + land, both(land, season).stop(0, 0), stop);
    }

    private static void states(YearsForCoin x, int n, int what, int... due) {
        for (int i = 0; i < due.length; i++) {
            Check.due("state " + n + " " + (what + i), x.state(0, 0, n, what + i), due[i]);
        }
    }

    private static void sales() {
        YearsForCoin x = both(LAND, "sell 0 0;sell 2 0;sell 3 1;sell 2 1;sell 0 1;");
        Check.due("stop", x.stop(0, 0), 5);
        states(x, 0, 0, 0, 0, 0, 0, 0, 0, 0);
        states(x, 0, 10, 8, 6, 1, 9);
        states(x, 0, 20, 20, 30, 40, 25);
        states(x, 0, 30, 3, 2, 4, 4);
        states(x, 0, 40, 0, 0, 0, 0);
        states(x, 1, 0, 0, 0, 0, 1, 1, 2, 6);
        states(x, 1, 10, 3, 6, 1, 9);
        states(x, 1, 20, 11, 30, 40, 25);
        states(x, 1, 40, 5, 0, 0, 0);
        states(x, 2, 0, 0, 0, 0, 2, 2, 4, 12);
        states(x, 2, 10, 3, 6, -4, 9);
        states(x, 2, 20, 11, 30, 31, 25);
        states(x, 3, 10, 3, 6, -4, 0);
        states(x, 3, 40, 5, 0, 5, 60);
        states(x, 3, 3, 3, 2, 4, 12);
        states(x, 4, 10, 3, 6, -64, 0);
        states(x, 5, 10, 0, 6, -64, 0);
        states(x, 5, 40, 65, 0, 65, 60);
        states(x, 5, 30, 3, 2, 4, 4);
    }

    private static void sharesAreCut() {
        YearsForCoin x = both("bank 1;ruler 5;knight 0 0 99 9;letter 9 19;", "sell 0 0;sell 0 0;");
        states(x, 1, 4, 1, 9, 9);
        states(x, 2, 4, 2, 18, 18);
        YearsForCoin y = both("bank 5;ruler 5;knight 0 0 99 9;letter 9 30;letter 9 7;", "sell 0 0;sell 0 1;");
        states(y, 1, 4, 15, 15, 0);
        states(y, 2, 4, 18, 18, 1);
    }

    private static void whatCannotBe() {
        stops(LAND, "", 0);
        stops(LAND, "sell 4 0;", 0);
        stops(LAND, "sell 0 2;", 0);
        stops(LAND, "sell 1 0;", 0);
        stops(LAND, "go 1;sell 1 0;", 2);
        stops(LAND, "go 1;sell 0 0;", 1);
        stops(LAND, "sell 0 0;sell 0 0;", 2);
        stops(LAND, "sell 0 0;sell 0 0;sell 0 0;", 2);
        stops(LAND, "sell 0 0;sell 0 1;sell 0 1;doubt;", 2);
        stops(LAND, "sell 2 0;sell 2 0;sell 2 0;sell 2 0;sell 2 0;", 4);
        stops(LAND, "shut 0;sell 0 0;", 1);
        stops(LAND, "shut 0;open 0;sell 0 0;", 3);
        stops("shut 0;" + LAND, "sell 0 0;", 0);
        stops(LAND, "sin 4 1;", 0);
        stops(LAND, "sin 3 1;", 1);
        stops("", "doubt;jubilee;", 2);
        stops("", "sin 0 1;", 0);
        stops("", "sell 0 0;", 0);
    }

    private static void goingAndShutting() {
        stops(LAND, "go 0;", 0);
        stops(LAND, "go 2;", 0);
        stops(LAND, "go 5;", 0);
        stops(LAND, "go 1;go 2;go 1;go 0;", 4);
        stops(LAND, "shut 1;go 1;", 1);
        stops(LAND, "shut 1;open 1;go 1;", 3);
        stops(LAND, "shut 0;go 1;go 0;", 2);
        stops(LAND, "shut 3;", 0);
        stops(LAND, "open 3;", 0);
        stops(LAND, "open 0;", 0);
        stops(LAND, "shut 2;shut 2;", 1);
        stops("shut 2;" + LAND, "open 2;open 2;", 1);
        YearsForCoin x = both("shut 2;" + LAND, "go 1;open 2;go 2;shut 2;shut 1;go 1;");
        Check.due("stop", x.stop(0, 0), 5);
        states(x, 0, 0, 0, 0, 4);
        states(x, 1, 0, 2, 1, 4);
        states(x, 2, 0, 2, 1, 0);
        states(x, 3, 0, 11, 2, 0);
        states(x, 4, 0, 11, 2, 4);
        states(x, 5, 0, 11, 2, 6);
        Check.due("the land stays as told", x.land(0, 5), 4);
    }

    private static void lastDay() {
        String ways = "go 1;go 0;".repeat(5) + "go 1;";
        stops("road 0 1 9;", ways, 11);
        YearsForCoin x = both("road 0 1 9;road 1 2 1;", ways + "doubt;go 0;");
        Check.due("not behind day 99", x.stop(0, 0), 12);
        states(x, 12, 0, 99, 1);
        stops("road 0 1 9;road 1 2 1;", ways + "go 2;", 11);
    }

    private static void sins() {
        YearsForCoin x = both("towns 2;poor 1 8 0 0;knight 0 0 9 9;poor 0 99 9 9;letter 60 0;",
            "sin 0 60;sin 0 31;sin 0 1;sell 1 0;sell 1 0;sin 1 60;sin 1 60;sin 1 60;sin 2 1;");
        Check.due("stop", x.stop(0, 0), 9);
        int[] owes = {8, 68, 99, 99};
        for (int n = 0; n < 4; n++) {
            states(x, n, 10, owes[n]);
        }
        states(x, 5, 11, -120);
        states(x, 6, 11, -60);
        states(x, 7, 11, 0);
        states(x, 8, 11, 60);
        states(x, 9, 12, 99);
        states(x, 9, 41, 120);
    }

    private static void doubts() {
        YearsForCoin x = both("poor 0 9 9 2;knight 0 0 9 1;widow 2 0 9 0;letter 1 1;", "doubt;sell 0 0;doubt;doubt;sell 0 0;");
        Check.due("without fear", x.stop(0, 0), 4);
        states(x, 1, 30, 1, 0, 0);
        states(x, 3, 30, 0, 0, 0);
        states(x, 4, 30, 0, 0, 0);
    }

    private static void jubilees() {
        YearsForCoin x = both("poor 0 8 99 3;knight 0 0 99 1;widow 0 50 99 0;poor 0 90 9 9;letter 5 0;letter 60 0;",
            "jubilee;sell 0 1;sell 1 0;sell 1 1;sell 3 0;sin 3 9;jubilee;jubilee;sell 2 0;jubilee;");
        Check.due("stop", x.stop(0, 0), 10);
        states(x, 1, 30, 3, 1, 0, 9);
        states(x, 6, 10, 0, -65, 50, 94);
        states(x, 6, 40, 60, 65, 0, 5);
        states(x, 7, 10, 60, 0, 50, 99);
        states(x, 7, 30, 2, 0, 0, 8);
        states(x, 7, 40, 0, 0, 0, 0);
        states(x, 7, 3, 4);
        states(x, 8, 10, 60, 0, 50, 99);
        states(x, 8, 30, 2, 0, 0, 8);
        states(x, 10, 10, 60, 0, 50, 99);
        states(x, 10, 30, 2, 0, 0, 8);
    }

    private static void states() {
        YearsForCoin x = both(LAND, "sell 0 0;go 5;doubt;");
        Check.due("stop", x.stop(0, 0), 1);
        Check.due("a state behind stop", x.state(0, 0, 2, 0), -1000);
        Check.due("a state behind all", x.state(0, 0, 4, 0), -1000);
        for (int n : new int[] {-1, MAX, MIN}) {
            Check.due("no state", x.state(0, 0, n, 0), -1000);
        }
        for (int what : new int[] {-1, 7, 8, 9, 14, 18, 19, 24, 29, 34, 44, 50, 53, 60, 110, MAX, MIN}) {
            Check.due("another what", x.state(0, 0, 1, what), -1000);
            Check.due("another what", x.drawn(0, 1, 1, what), -1000);
        }
        for (int bad : new int[] {-1, 1, 2, MAX, MIN}) {
            Check.due("no land", x.state(bad, 0, 0, 0), -1000);
            Check.due("no season", x.state(0, bad, 0, 0), -1000);
            Check.due("no land", x.stop(bad, 0), -1);
            Check.due("no season", x.stop(0, bad), -1);
            Check.due("no land", x.after(bad, 0, 0), -2);
            Check.due("no season", x.after(0, bad, 0), -2);
            Check.due("no land", x.drawn(bad, 1, 1, 0), -1000);
        }
        for (int bad : new int[] {-1, 3, 10, MAX, MIN}) {
            Check.due("another what", x.after(0, 0, bad), -2);
        }
    }

    private static void after(String land, String season, int payer, int half, int ahead) {
        YearsForCoin x = both(land, season);
        Check.due("payer of " + season, x.after(0, 0, 0), payer);
        Check.due("half of " + season, x.after(0, 0, 1), half);
        Check.due("ahead of " + season, x.after(0, 0, 2), ahead);
    }

    private static void after() {
        after(LAND, "", -1, 0, 0);
        after(LAND, "sell 0 1;doubt;", -1, 0, 0);
        after(LAND, "doubt;sell 2 0;doubt;", 2, 2, 4);
        after(LAND, "sell 0 0;sell 2 0;sell 2 0;go 5;sell 0 0;", 2, 2, 4);
        after(LAND, "sell 3 0;sell 0 0;", 0, 1, 0);
        after(LAND, "sell 0 0;sell 2 0;jubilee;", 0, 1, 0);
        after("bank 5;ruler 5;" + "knight 0 0 99 9;knight 0 5 9 9;letter 5 10;", "sell 0 0;sell 0 0;", 0, 0, 1);
        after("knight 0 0 99 9;knight 0 5 9 9;letter 6 3;letter 6 4;letter 6 1;", "sell 1 0;sell 0 1;sell 0 2;", 0, 2, 3);
    }

    /** Works out by hand what a seed draws, in numbers that are told below. */
    private static int[] numbers(int seed, int... below) {
        int[] drawn = new int[below.length];
        long x = seed & 0xffffffffL;
        for (int i = 0; i < below.length; i++) {
            x = (x * 1103515245L + 12345L) & 0xffffffffL;
            drawn[i] = (int) ((x >> 16) % below[i]);
        }
        return drawn;
    }

    private static int seedOf(int... belowAndDrawn) {
        int[] below = new int[belowAndDrawn.length / 2];
        for (int i = 0; i < below.length; i++) {
            below[i] = belowAndDrawn[2 * i];
        }
        for (int seed = -5000; seed < 2000000; seed++) {
            int[] drawn = numbers(seed, below);
            boolean same = true;
            for (int i = 0; i < below.length; i++) {
                same &= drawn[i] == belowAndDrawn[2 * i + 1];
            }
            if (same) {
                return seed;
            }
        }
        Check.due("a seed is found", 0, 1);
        return 0;
    }

    private static void draws() {
        YearsForCoin x = Check.told(0, LAND);
        for (int n : new int[] {-1, 61, MAX, MIN}) {
            Check.due("another n", x.drawn(0, 1, n, 0), -1000);
        }
        Check.due("nothing drawn", x.drawn(0, 1, 0, 10), 8);
        Check.due("60 times", x.drawn(0, 1, 60, 1) >= 0, true);
        int go = seedOf(8, 0, 3, 1);
        Check.due("go", x.drawn(0, go, 1, 0), 2);
        Check.due("go", x.drawn(0, go, 1, 1), 1);
        int back = seedOf(8, 0, 3, 1, 8, 0, 3, 1, 8, 0, 3, 2);
        Check.due("may not, may", x.drawn(0, back, 3, 0), 11);
        Check.due("may not, may", x.drawn(0, back, 3, 1), 2);
        for (int which = 1; which <= 4; which++) {
            int sell = seedOf(8, which, 4, 2, 2, 0);
            Check.due("sell", x.drawn(0, sell, 1, 12), -4);
            Check.due("sell", x.drawn(0, sell, 1, 22), 31);
            Check.due("sell", x.drawn(0, sell, 1, 6), 6);
        }
        Check.due("may not sell", x.drawn(0, seedOf(8, 1, 4, 1, 2, 0), 1, 3), 0);
        Check.due("sin", x.drawn(0, seedOf(8, 5, 4, 1, 9, 0), 1, 11), 7);
        Check.due("sin", x.drawn(0, seedOf(8, 5, 4, 3, 9, 8), 1, 13), 18);
        Check.due("doubt", x.drawn(0, seedOf(8, 6), 1, 30), 2);
        int jubilee = seedOf(8, 3, 4, 0, 2, 0, 8, 7);
        Check.due("jubilee", x.drawn(0, jubilee, 1, 10), 3);
        Check.due("jubilee", x.drawn(0, jubilee, 2, 10), 8);
        Check.due("jubilee", x.drawn(0, jubilee, 2, 30), 2);
        YearsForCoin nobody = Check.told(0, "road 0 1 2;letter 1 1;");
        int none = seedOf(8, 1, 8, 5, 8, 0, 3, 1);
        Check.due("no buyers: no more is drawn", nobody.drawn(0, none, 3, 1), 1);
        YearsForCoin noLetter = Check.told(0, "road 0 1 2;poor 0 1 1 1;poor 0 1 1 1;");
        Check.due("no letters: the buyer is drawn", noLetter.drawn(0, seedOf(8, 2, 2, 1, 8, 0, 3, 1), 2, 1), 1);
        Check.due("the land stays as told", x.land(0, 30), 8);
    }
}
