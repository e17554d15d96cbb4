/** Promises 19, 20, 31, 36: shares of a bargain. */
public final class BargainsTest {
    public static void main(String[] args) {
        rows();
        fair();
        even();
        power();
        wrongNumbers();
        Check.exit("BargainsTest");
    }

    private static void rows(String text, int many, int... first) {
        YearsForCoin x = Check.told(3, text);
        Check.due("rows of " + text, x.rows(0, -1), many);
        for (int p = 0; p < 4; p++) {
            Check.due("row of " + text, x.rows(0, p), p < first.length ? first[p] : -1);
        }
    }

    private static void rows() {
        rows("", 1, 0, 0);
        rows("parties 1;worth 1 7;", 1, 7);
        rows("worth 1 3;worth 2 1;worth 3 9;", 6, 3, 6);
        rows("worth 3 9;", 10, 0, 9);
        rows("worth 1 5;worth 2 5;worth 3 9;", 0);
        rows("worth 1 5;worth 2 4;worth 3 9;", 1, 5, 4);
        rows("parties 3;worth 7 10;worth 3 6;worth 5 6;worth 6 6;", 6, 2, 4, 4);
        rows("parties 3;worth 7 9;worth 3 6;worth 5 6;worth 6 6;", 1, 3, 3, 3);
        rows("parties 3;worth 7 8;worth 3 6;worth 5 6;worth 6 6;", 0);
        rows("parties 4;worth 15 40;", 12341, 0, 0, 0, 40);
        rows("parties 4;worth 15 10;worth 7 10;worth 11 10;worth 13 10;worth 14 10;", 0);
        rows("parties 4;worth 15 4;worth 14 4;worth 8 1;worth 9 2;", 6, 0, 0, 0, 4);
        rows("parties 2;worth 1 1;", 0);
        YearsForCoin x = Check.told(3, "worth 3 9;");
        Check.tell(x, 3, "worth 1 1;");
        for (int i = 0; i < 2; i++) {
            Check.due("by turns", x.rows(0, -1), 10);
            Check.due("by turns", x.rows(1, -1), 0);
            Check.due("by turns", x.rows(0, 1), 9);
            Check.due("by turns", x.rows(1, 1), -1);
        }
    }

    private static void fair(YearsForCoin x, int party, int over, int under) {
        Check.due("fair of " + party, x.fair(0, party, false), over);
        Check.due("under of " + party, x.fair(0, party, true), under);
    }

    private static void fair() {
        YearsForCoin two = Check.told(3, "worth 1 3;worth 2 1;worth 3 9;");
        fair(two, 0, 11, 2);
        fair(two, 1, 7, 2);
        YearsForCoin none = Check.told(3, "");
        fair(none, 0, 0, 1);
        YearsForCoin one = Check.told(3, "parties 1;worth 1 7;");
        fair(one, 0, 7, 1);
        // Both orders: 10 first, then 10 less.
        YearsForCoin below = Check.told(3, "worth 1 10;worth 2 5;");
        fair(below, 0, 5, 2);
        fair(below, 1, -5, 2);
        // Gloves: one left, two right.
        YearsForCoin gloves = Check.told(3, "parties 3;worth 3 1;worth 5 1;worth 7 1;");
        fair(gloves, 0, 2, 3);
        fair(gloves, 1, 1, 6);
        fair(gloves, 2, 1, 6);
        YearsForCoin four = Check.told(3, "parties 4;worth 3 1;worth 15 1;");
        // 0 brings 1 as the second behind 1 (2 orders of 24) and as the last (6); 2 takes it from 0 and 1 (2), or is the last (6).
        fair(four, 0, 1, 3);
        fair(four, 1, 1, 3);
        fair(four, 2, 1, 6);
        fair(four, 3, 1, 6);
        YearsForCoin first = Check.told(3, "parties 4;worth 1 1;");
        fair(first, 0, 1, 4);
        fair(first, 1, -1, 12);
    }

    private static void even(String text, int... due) {
        YearsForCoin x = Check.told(3, text);
        for (int p = 0; p < due.length; p++) {
            Check.due("even of " + p + " in " + text, x.even(0, p), due[p]);
        }
        Check.due("no party", x.even(0, due.length), -1000);
    }

    private static void even() {
        even("", 0, 0);
        even("parties 1;worth 1 7;", 7);
        even("worth 1 3;worth 2 1;worth 3 9;", 6, 3);
        even("worth 1 10;worth 2 5;", 3, -3);
        even("parties 3;worth 3 1;worth 5 1;worth 7 1;", 1, 0, 0);
        even("parties 3;worth 7 2;", 1, 1, 0);
        even("parties 3;worth 6 1;worth 5 1;worth 7 1;", 0, 0, 1);
        // 1/4, and -1/12 three times: two of the three -1 go up.
        even("parties 4;worth 1 1;", 0, 0, 0, 0);
        even("parties 4;worth 15 3;", 1, 1, 1, 0);
    }

    private static void power(String text, int veto, int idle, int... swings) {
        YearsForCoin x = Check.told(3, text);
        Check.due("veto of " + text, x.power(0, 0), veto);
        Check.due("idle of " + text, x.power(0, 1), idle);
        for (int p = 0; p < swings.length; p++) {
            Check.due("swings of " + p + " in " + text, x.power(0, 10 + p), swings[p]);
        }
        Check.due("no party", x.power(0, 10 + swings.length), -1);
    }

    private static void power() {
        power("", 3, 3, 0, 0);
        power("parties 1;worth 1 7;", 1, 0, 1);
        power("worth 1 3;worth 2 1;worth 3 9;", 0, 0, 2, 2);
        power("worth 1 3;worth 3 3;", 1, 2, 2, 0);
        power("worth 1 3;worth 3 2;", 1, 0, 2, 0);
        power("parties 3;worth 3 1;worth 5 1;worth 7 1;", 1, 0, 3, 1, 1);
        power("parties 4;worth 15 1;", 15, 0, 1, 1, 1, 1);
    }

    private static void wrongNumbers() {
        YearsForCoin x = Check.told(3, "worth 3 4;");
        for (int bad : new int[] {-1, 1, 2, Integer.MAX_VALUE, Integer.MIN_VALUE}) {
            Check.due("no bargain", x.rows(bad, -1), -1);
            Check.due("no bargain", x.fair(bad, 0, false), -1000);
            Check.due("no bargain", x.power(bad, 0), -1);
            Check.due("no bargain", x.even(bad, 0), -1000);
            Check.due("no bargain", x.bargain(bad, 0), -1);
        }
        for (int bad : new int[] {-2, 2, 4, Integer.MAX_VALUE, Integer.MIN_VALUE}) {
            Check.due("no party", x.rows(0, bad), -1);
            Check.due("no party", x.fair(0, bad, true), -1000);
            Check.due("no party", x.even(0, bad), -1000);
            Check.due("another what", x.power(0, bad), -1);
        }
        Check.due("no party", x.fair(0, -1, false), -1000);
        Check.due("no party", x.even(0, -1), -1000);
        Check.due("another what", x.power(0, 9), -1);
        Check.due("another what", x.power(0, -1), -1);
    }
}
