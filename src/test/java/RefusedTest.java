import java.util.ArrayList;
import java.util.Arrays;
import java.util.List;
import java.util.function.ToLongFunction;

/** What refused calls and questions leave as it was, and the edges of images: promises 2 to 5, 38, 39, and all that only ask. */
public final class RefusedTest {
    private static final int MAX = Integer.MAX_VALUE;
    private static final int MIN = Integer.MIN_VALUE;
    private static final String[] FULL = {
        "towns 6;bank 1;ruler 2;shut 4;road 0 1 3;road 0 5 9;poor 0 8 20 3;widow 5 6 30 2;knight 0 0 12 4;letter 5 9;letter 60 0;",
        "sell 0 0;go 1;sin 2 60;shut 0;doubt;", "in 9;key 2;count 7;out 3;", "parties 4;worth 15 40;worth 5 7;"};
    private static final String[] OTHER = {"towns 2;shut 1;doubter 1 9 9 9;letter 1 60;", "jubilee;open 3;", "key 5;count 99;", "worth 3 9;"};
    /** What is seen of an object: as it is, what is on its tape, what its images hold. */
    private static final int VIEWS = 5;

    public static void main(String[] args) {
        refusedFeeds();
        refusedEnds();
        refusedImages();
        refusedTexts();
        faultyTexts();
        questions();
        imagesByNumber();
        imageOfNothing();
        imageIsWhole();
        imagesStay();
        imageOverAnother();
        againTwice();
        Check.exit("RefusedTest");
    }

    /** Two of each sort, a fault, images 0 and 1 of earlier times, and a tape of so many bytes. */
    private static YearsForCoin made(int bytes) {
        YearsForCoin x = new YearsForCoin();
        for (int sort = 0; sort < 4; sort++) {
            Check.tell(x, sort, OTHER[sort]);
        }
        x.image(0);
        for (int sort = 0; sort < 4; sort++) {
            Check.tell(x, sort, FULL[sort]);
        }
        Check.tape(x, "bank 5;");
        x.image(1);
        Check.tape(x, "towns 6;bank 9;");
        Check.due("a fault", x.text(0, 1), -1);
        Check.tape(x, "ruler 4;bank 3;" + "\n".repeat(bytes - 15));
        return x;
    }

    private static long[] told(YearsForCoin x) {
        List<Long> all = new ArrayList<>();
        for (int sort = 0; sort < 4; sort++) {
            all.add((long) x.count(sort));
        }
        all.add((long) x.fault(0));
        all.add((long) x.fault(1));
        for (int i = 0; i < 2; i++) {
            for (int what = 0; what < 136; what += what == 5 ? 5 : what % 10 == 3 && what < 80 ? 7 : what == 80 ? 20 : 1) {
                all.add((long) x.land(i, what));
            }
            for (int k = -1; k < 6; k++) {
                for (int what = 0; what < 3; what++) {
                    all.add((long) x.deed(i, k, what));
                    all.add((long) x.entry(i, k, what));
                }
            }
            for (int what = 0; what < 16; what++) {
                all.add((long) x.bargain(i, what));
            }
        }
        long[] row = new long[all.size()];
        for (int i = 0; i < row.length; i++) {
            row[i] = all.get(i);
        }
        return row;
    }

    private static long[] seen(YearsForCoin x, int view, int bytes) {
        if (view == 1) {
            long[] tape = {x.end(bytes + 1), x.end(bytes), x.text(0, 0), x.land(0, 4), x.land(0, 3), x.fault(0)};
            return tape;
        }
        if (view >= 2) {
            boolean there = x.again(view - 2);
            Check.due("image " + (view - 2) + " is there", there, view < 4);
        }
        return told(x);
    }

    /** A call that is refused answers so, and leaves all as it was. */
    private static void leaves(String call, int bytes, ToLongFunction<YearsForCoin> asked, long due) {
        for (int view = 0; view < VIEWS; view++) {
            YearsForCoin x = made(bytes);
            Check.due(call, asked.applyAsLong(x), due);
            long[] then = seen(x, view, bytes);
            long[] before = seen(made(bytes), view, bytes);
            Check.due(call + " leaves all as it was, view " + view, Arrays.equals(then, before), true);
        }
    }

    private static void refusedFeeds() {
        Check.sentence("2: NONE, and nothing comes, if there would be more than 600");
        for (int bytes : new int[] {581, 582, 599, 600}) {
            leaves("feed behind " + bytes, bytes, x -> x.feed(0x3b3b3b3b, -1, 0, MAX, MIN), -1);
        }
    }

    private static void refusedEnds() {
        Check.sentence("3: NONE if it has not so many, or n is below 0");
        for (int bytes : new int[] {15, 300, 600}) {
            for (int n : new int[] {bytes + 1, 601, MAX, -1, MIN}) {
                leaves("end(" + n + ") of " + bytes, bytes, x -> x.end(n), -1);
            }
            leaves("end(" + bytes + ") of as many", bytes, x -> x.end(bytes), bytes);
        }
    }

    private static void refusedImages() {
        Check.sentence("38: false for another k; 39: false if there is none such");
        for (int k : new int[] {-1, -2, 3, 4, MAX, MIN}) {
            leaves("image(" + k + ")", 20, x -> x.image(k) ? 1 : 0, 0);
            leaves("again(" + k + ")", 20, x -> x.again(k) ? 1 : 0, 0);
        }
        leaves("again(2), which was never made", 20, x -> x.again(2) ? 1 : 0, 0);
    }

    /** A text that is not kept takes the tape and has a fault or none; all else is as it was. */
    private static void takesAlone(String tape, int sort, int at, int due, int fault) {
        String call = "text(" + sort + ", " + at + ")";
        for (int view : new int[] {0, 2, 3, 4}) {
            YearsForCoin x = made(20);
            Check.tape(x, tape);
            Check.due(call, x.text(sort, at), due);
            Check.due("fault of " + call, x.fault(0), fault);
            Check.due("the tape is taken by " + call, x.end(1), -1);
            long[] then = seen(x, view, 0);
            long[] before = seen(made(20), view, 0);
            if (view == 0 || view == 4) {
                forgetFault(then);
                forgetFault(before);
            }
            Check.due(call + " leaves all else, view " + view, Arrays.equals(then, before), true);
        }
    }

    private static void forgetFault(long[] told) {
        told[4] = 0;
        told[5] = 0;
    }

    private static void refusedTexts() {
        Check.sentence("4: -2: there is none such, there are as many as may be, or no such sort (no text is read then, FAULT 0)");
        for (int sort = 0; sort < 4; sort++) {
            for (int at : new int[] {-1, 2, 3, -2, MAX, MIN}) {
                takesAlone(FULL[sort], sort, at, -2, 0);
                takesAlone("oops", sort, at, -2, 0);
            }
        }
        for (int sort : new int[] {-1, 4, MAX, MIN}) {
            takesAlone(FULL[0], sort, 0, -2, 0);
            takesAlone(FULL[0], sort, -1, -2, 0);
        }
    }

    private static void faultyTexts() {
        Check.sentence("4: NONE: a FAULT");
        String[][] faulty = {
            {"towns 1;bank 5;x", "towns 1;bank 6;", "letter 1 1;".repeat(5), "towns 1;shut 1;"},
            {"doubt;x", "doubt;go 6;", "doubt;".repeat(41)},
            {"in 1;x", "in 1;key 6;", "in 1;".repeat(21)},
            {"parties 1;x", "parties 5;", "", "worth 4 1;"}};
        for (int sort = 0; sort < 4; sort++) {
            for (int fault = 1; fault <= faulty[sort].length; fault++) {
                if (!faulty[sort][fault - 1].isEmpty()) {
                    takesAlone(faulty[sort][fault - 1], sort, 0, -1, fault);
                    takesAlone(faulty[sort][fault - 1], sort, 1, -1, fault);
                }
            }
        }
    }

    private static void questions() {
        Check.sentence("9, 21 and others: what is told is as it was behind every question");
        leaves("fault", 20, x -> x.fault(7), -1);
        leaves("land", 20, x -> x.land(1, 136), -1);
        leaves("deed", 20, x -> x.deed(1, 5, 0), -2);
        leaves("stop", 20, x -> x.stop(1, 1), 5);
        leaves("state", 20, x -> x.state(1, 1, 5, 12), 60);
        leaves("state beyond", 20, x -> x.state(1, 1, 6, 0), -1000);
        leaves("takes", 20, x -> x.takes(1, 0, 60, 20), 1);
        leaves("priced", 20, x -> x.priced(1, 5, -1, true), 36);
        leaves("days", 20, x -> x.days(1, 1, 5), 12);
        leaves("tour", 20, x -> x.tour(1, 9, 0, -1), 27);
        leaves("hold", 20, x -> x.hold(1, 0, -1), 8);
        leaves("plan", 20, x -> x.plan(2, 2, -1), 9);
        leaves("entry", 20, x -> x.entry(1, 2, 2), 2);
        leaves("thieves", 20, x -> x.thieves(1, 1), 4);
        leaves("bargain", 20, x -> x.bargain(1, 5), 7);
        leaves("rows", 20, x -> x.rows(1, 0), 0);
        leaves("fair", 20, x -> x.fair(1, 4, false), -1000);
        leaves("drawn", 20, x -> x.drawn(1, 5, 60, 2), 16);
        leaves("border", 20, x -> x.border(1, 9, 0, true), 9);
        leaves("ranked", 20, x -> x.ranked(1, 61), -1);
        leaves("sold", 20, x -> x.sold(1, 5, 100), -1);
        leaves("round", 20, x -> x.round(1, -1), 15);
        leaves("reach", 20, x -> x.reach(1, 9), 35);
        leaves("centre", 20, x -> x.centre(1, true), -1);
        leaves("until", 20, x -> x.until(1, 0, 0), 2);
        leaves("enough", 20, x -> x.enough(1, 0), 0);
        leaves("loan", 20, x -> x.loan(50, 20, 30, true), 67);
        leaves("power", 20, x -> x.power(1, 14), -1);
        leaves("after", 20, x -> x.after(1, 1, 0), 0);
        leaves("opened", 20, x -> x.opened(1, true), 2);
        leaves("poorer", 20, x -> x.poorer(1), 1);
        leaves("within", 20, x -> x.within(2, 7), 2);
        leaves("even", 20, x -> x.even(1, 4), -1000);
        leaves("count", 20, x -> x.count(4), -2);
    }

    private static void imagesByNumber() {
        Check.sentence("38: Image k (0 .. 2): true; false for another k; 39: true; false if there is none such");
        for (int k = -3; k <= 6; k++) {
            YearsForCoin x = new YearsForCoin();
            boolean may = k >= 0 && k <= 2;
            Check.due("again(" + k + ") ahead of it", x.again(k), false);
            Check.due("image(" + k + ")", x.image(k), may);
            for (int other = -3; other <= 6; other++) {
                Check.due("again(" + other + ") behind image(" + k + ")", x.again(other), may && other == k);
            }
        }
        YearsForCoin x = new YearsForCoin();
        for (int k : new int[] {MAX, MIN, 256, 1 << 30}) {
            Check.due("image(" + k + ")", x.image(k), false);
            Check.due("again(" + k + ")", x.again(k), false);
        }
    }

    private static void imageOfNothing() {
        Check.sentence("38: Image k is all that is told, as it is now");
        YearsForCoin x = new YearsForCoin();
        Check.due("image", x.image(2), true);
        for (int sort = 0; sort < 4; sort++) {
            Check.tell(x, sort, FULL[sort]);
        }
        Check.tape(x, "oops");
        Check.due("a fault", x.text(0, 0), -1);
        Check.tape(x, "bank 1;");
        Check.due("again", x.again(2), true);
        for (int sort = 0; sort < 4; sort++) {
            Check.due("none", x.count(sort), 0);
        }
        Check.due("no land", x.land(0, 0), -1);
        Check.due("no fault", x.fault(0), 0);
        Check.due("no place", x.fault(1), -1);
        Check.due("no tape", x.end(1), -1);
        Check.due("an empty land", x.text(0, -1), 0);
        Check.due("as at first", x.land(0, 0), 3);
    }

    private static void imageIsWhole() {
        Check.sentence("38: all that is told (the tape, the FAULT, too); 39: All that is as image k has it");
        for (int bytes : new int[] {15, 599, 600}) {
            for (int view = 0; view < 2; view++) {
                for (int k = 0; k < 3; k++) {
                    YearsForCoin x = made(bytes);
                    Check.due("image", x.image(k), true);
                    for (int sort = 0; sort < 4; sort++) {
                        Check.tape(x, "");
                        Check.due("anew", x.text(sort, 0), 0);
                        Check.due("anew", x.text(sort, 1), 1);
                    }
                    Check.tape(x, "x".repeat(600));
                    Check.due("a fault", x.text(0, 0), -1);
                    Check.tape(x, ";".repeat(600));
                    Check.due("again", x.again(k), true);
                    long[] then = seen(x, view, bytes);
                    Check.due("view " + view + " of image " + k, Arrays.equals(then, seen(made(bytes), view, bytes)), true);
                }
            }
        }
    }

    private static YearsForCoin threeImages() {
        YearsForCoin x = new YearsForCoin();
        for (int k = 0; k < 3; k++) {
            Check.tape(x, "bank " + (k + 1) + ";");
            Check.due("land", x.text(0, k == 0 ? -1 : 0), 0);
            Check.due("image", x.image(k), true);
        }
        return x;
    }

    private static void imagesStay() {
        Check.sentence("39: (other images stay)");
        YearsForCoin x = threeImages();
        for (int k : new int[] {0, 1, 2, 1, 0, 2, 2, 0}) {
            Check.due("again", x.again(k), true);
            Check.due("bank of " + k, x.land(0, 3), k + 1);
            Check.tape(x, "bank 5;");
            Check.due("then it is told anew", x.text(0, 0), 0);
            Check.due("bank", x.land(0, 3), 5);
        }
    }

    private static void imageOverAnother() {
        Check.sentence("38: Image k is all that is told .. as it is now");
        YearsForCoin x = threeImages();
        Check.tape(x, "bank 5;");
        Check.due("land", x.text(0, 0), 0);
        Check.due("over one", x.image(1), true);
        int[] due = {1, 5, 3};
        for (int k = 2; k >= 0; k--) {
            Check.due("again", x.again(k), true);
            Check.due("bank of " + k, x.land(0, 3), due[k]);
        }
        // An image of what an image has is one of its own.
        Check.due("again", x.again(0), true);
        Check.due("image", x.image(2), true);
        Check.due("image", x.again(1) && x.image(0), true);
        Check.due("again", x.again(2), true);
        Check.due("bank", x.land(0, 3), 1);
    }

    private static void againTwice() {
        Check.sentence("39: All that is as image k has it: true");
        YearsForCoin x = threeImages();
        for (int times = 0; times < 5; times++) {
            Check.due("again", x.again(1), true);
            Check.due("bank", x.land(0, 3), 2);
            Check.due("lands", x.count(0), 1);
        }
        Check.due("a second", Check.tell(x, 0, ""), 1);
        Check.due("two", x.count(0), 2);
        Check.due("again", x.again(1), true);
        Check.due("one", x.count(0), 1);
        Check.due("not the second", x.land(1, 0), -1);
        Check.due("a second again", Check.tell(x, 0, "bank 4;"), 1);
        Check.due("of its own", x.land(1, 3), 4);
    }
}
