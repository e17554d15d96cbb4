import java.util.Random;

/** No call throws or fails to end, for any numbers in any state; and the same calls always give the same answers. */
public final class AnythingTest {
    private static final int[] EDGES = {-1001, -1000, -3, -2, -1, 0, 1, 2, 3, 4, 5, 6, 7, 8, 9, 10, 11, 12, 13, 14, 15, 16, 19, 20, 21, 30,
        39, 40, 41, 50, 51, 59, 60, 61, 63, 64, 73, 74, 99, 100, 101, 135, 136, 599, 600, 601, 999, 1000, 1001,
        Integer.MAX_VALUE, Integer.MAX_VALUE - 1, Integer.MIN_VALUE, Integer.MIN_VALUE + 1};
    private static final String[] TEXTS = {
        "towns 6;road 0 1 1;road 1 2 9;road 3 0 2;shut 3;shut 0;bank 5;ruler 5;poor 5 9 9 9;knight 0 0 99 9;letter 60 60;letter 1 0;",
        "towns 1;poor 0 99 99 9;", "", "letter 1 1;letter 1 1;letter 1 1;letter 1 1;poor 0 99 99 0;",
        "sell 7 3;go 5;", "sell 0 1;sell 1 1;sell 1 1;go 1;go 2;shut 5;open 5;jubilee;doubt;sin 1 60;", "doubt;jubilee;",
        "count 0;in 5;key 5;count 0;", "out 99;count 0;key 0;key 1;count 99;in 1;count 0;",
        "parties 4;worth 15 40;worth 8 40;worth 1 3;", "parties 1;worth 1 40;", "worth 3 1;worth 1 40;", "oops", "towns 999;"};

    public static void main(String[] args) {
        for (int seed = 0; seed < 1500; seed++) {
            Check.due("the same answers once more, seed " + seed, run(seed), run(seed));
        }
        Check.exit("AnythingTest");
    }

    private static long run(int seed) {
        Random random = new Random(seed);
        YearsForCoin x = new YearsForCoin();
        long sum = 0;
        for (int call = 0; call < 400; call++) {
            if (random.nextInt(8) == 0) {
                Check.tape(x, TEXTS[random.nextInt(TEXTS.length)]);
                sum = 31 * sum + x.text(random.nextInt(4), random.nextInt(3) - 1);
            } else {
                sum = 31 * sum + ask(x, random.nextInt(39), random);
            }
        }
        return sum;
    }

    /** Small numbers mostly, so that most of what is asked for is there. */
    private static int any(Random random) {
        return random.nextInt(3) > 0 ? random.nextInt(4) - 1 : EDGES[random.nextInt(EDGES.length)];
    }

    private static long ask(YearsForCoin x, int which, Random random) {
        int a = any(random);
        int b = any(random);
        int c = any(random);
        int d = any(random);
        boolean e = random.nextBoolean();
        switch (which) {
            case 0: return x.feed(a, b, c, d, random.nextInt());
            case 1: return x.end(a);
            case 2: return x.text(a, b);
            case 3: return x.fault(a);
            case 4: return x.land(a, b);
            case 5: return x.deed(a, b, c);
            case 6: return x.stop(a, b);
            case 7: return x.state(a, b, c, d);
            case 8: return x.takes(a, b, c, d);
            case 9: return x.priced(a, b, c, e);
            case 10: return x.days(a, b, c);
            case 11: return x.tour(a, b, c, d);
            case 12: return x.hold(a, b, c);
            case 13: return x.plan(a, b, c);
            case 14: return x.entry(a, b, c);
            case 15: return x.thieves(a, b);
            case 16: return x.bargain(a, b);
            case 17: return x.rows(a, b);
            case 18: return x.fair(a, b, e);
            case 19: return x.drawn(a, b, c, d);
            case 20: return x.border(a, b, c, e);
            case 21: return x.ranked(a, b);
            case 22: return x.sold(a, b, c);
            case 23: return x.round(a, b);
            case 24: return x.reach(a, b);
            case 25: return x.centre(a, e);
            case 26: return x.until(a, b, c);
            case 27: return x.enough(a, b);
            case 28: return x.loan(a, b, c, e);
            case 29: return x.power(a, b);
            case 30: return x.after(a, b, c);
            case 31: return x.opened(a, e);
            case 32: return x.poorer(a);
            case 33: return x.within(a, b);
            case 34: return x.even(a, b);
            case 35: return x.count(a);
            case 36: return x.image(a) ? 1 : 0;
            default: return x.again(a) ? 1 : 0;
        }
    }
}
