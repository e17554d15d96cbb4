/** Promises 1 to 7, 16, 18, 37 to 39 in their plain part: the tape, texts and their faults, what was told, images. */
public final class TextsTest {
    private static final String LAND =
        "towns 4;bank 2;ruler 5;road 0 1 2;road 1 3 9;shut 3;shut 1;poor 0 8 20 3;widow 1 6 30 2;"
        + "knight 2 0 12 4;doubter 3 99 99 9;letter 5 9;letter 60 60;";

    public static void main(String[] args) {
        newObject();
        tape();
        placesOfTexts();
        tokens();
        numbersThatCannotBe();
        oneTooMany();
        townsNotThere();
        firstFault();
        landAsTold();
        fullLand();
        laterOnesStrike();
        seasonAsTold();
        ledgerAsTold();
        bargainAsTold();
        images();
        Check.exit("TextsTest");
    }

    private static void newObject() {
        YearsForCoin x = new YearsForCoin();
        for (int sort = 0; sort < 4; sort++) {
            Check.due("count", x.count(sort), 0);
        }
        Check.due("count(4)", x.count(4), -2);
        Check.due("count(-1)", x.count(-1), -2);
        Check.due("fault(0)", x.fault(0), 0);
        Check.due("fault(1)", x.fault(1), -1);
        Check.due("fault(2)", x.fault(2), -1);
        Check.due("fault(-1)", x.fault(-1), -1);
        Check.due("end(0)", x.end(0), 0);
        Check.due("end(1)", x.end(1), -1);
        for (int k = -1; k < 4; k++) {
            Check.due("again", x.again(k), false);
        }
    }

    private static void tape() {
        YearsForCoin x = new YearsForCoin();
        for (int i = 1; i <= 30; i++) {
            Check.due("feed", x.feed(0, 0, 0, 0, 0), 20 * i);
        }
        Check.due("feed too much", x.feed(0, 0, 0, 0, 0), -1);
        Check.due("end(601)", x.end(601), -1);
        Check.due("end(600)", x.end(600), 600);
        Check.due("end(581)", x.end(581), 581);
        Check.due("feed one too much", x.feed(0, 0, 0, 0, 0), -1);
        Check.due("end(582) behind it", x.end(582), -1);
        Check.due("end(580)", x.end(580), 580);
        Check.due("feed to the last", x.feed(0, 0, 0, 0, 0), 600);
        Check.due("end(-1)", x.end(-1), -1);
        Check.due("end(min)", x.end(Integer.MIN_VALUE), -1);
        Check.due("end(0)", x.end(0), 0);
        // 'ruler 3; letter 7 8;' with a byte in each place of a number
        Check.due("feed", x.feed(0x72756c65, 0x7220333b, 0x206c6574, 0x74657220, 0x3720383b), 20);
        Check.due("text", x.text(0, -1), 0);
        Check.due("ruler", x.land(0, 4), 3);
        Check.due("years", x.land(0, 60), 7);
        Check.due("price", x.land(0, 70), 8);
        Check.due("tape is empty", x.end(1), -1);
    }

    private static void placesOfTexts() {
        YearsForCoin x = new YearsForCoin();
        Check.due("text of none", x.text(1, 0), -2);
        Check.due("first", Check.tell(x, 1, "doubt;"), 0);
        Check.due("second", Check.tell(x, 1, "doubt;doubt;"), 1);
        int[][] none = {{1, -1}, {1, 2}, {1, -2}, {0, 0}, {4, -1}, {4, 0}, {-1, -1}, {1, Integer.MAX_VALUE}, {1, Integer.MIN_VALUE},
            {Integer.MAX_VALUE, -1}, {Integer.MIN_VALUE, 0}};
        for (int[] of : none) {
            takesUnread(x, of[0], of[1]);
        }
        Check.due("the first stays", x.deed(0, -1, 0), 1);
        Check.tape(x, "go 9;");
        Check.due("text(1, 1) with a fault", x.text(1, 1), -1);
        Check.due("fault", x.fault(0), 2);
        Check.due("the tape is taken with a fault", x.end(1), -1);
        Check.due("the old one stays", x.deed(1, -1, 0), 2);
        Check.tape(x, "go 2;go 3;go 4;");
        Check.due("text(1, 0)", x.text(1, 0), 0);
        Check.due("fault is gone", x.fault(0), 0);
        Check.due("in the place of one", x.deed(0, -1, 0), 3);
        Check.due("the other stays", x.deed(1, -1, 0), 2);
        Check.due("still two", x.count(1), 2);
        Check.due("other sorts", x.count(0) + x.count(2) + x.count(3), 0);
        Check.due("an empty text", x.text(1, 1), 1);
        Check.due("no deeds", x.deed(1, -1, 0), 0);
        Check.tape(x, "oops");
        Check.due("fault 1", x.text(1, 0), -1);
        Check.due("fault 1", x.fault(0), 1);
        Check.due("-2 behind it", x.text(3, 0), -2);
        Check.due("FAULT 0 then", x.fault(0), 0);
    }

    /** The tape is taken, though no text is read: its fault does not show, and it is empty then. */
    private static void takesUnread(YearsForCoin x, int sort, int at) {
        String call = "text(" + sort + ", " + at + ")";
        Check.tape(x, "oops");
        Check.due(call, x.text(sort, at), -2);
        Check.due("fault of " + call, x.fault(0), 0);
        Check.due("place of " + call, x.fault(1), -1);
        Check.due("the tape is taken by " + call, x.end(1), -1);
        Check.due("feed behind " + call, x.feed(0, 0, 0, 0, 0), 20);
        Check.due("end behind " + call, x.end(0), 0);
        Check.due("nothing more by " + call, x.count(1), 2);
    }

    private static void tokens() {
        Check.faulty(0, "", 0, -1);
        Check.faulty(0, " \n ", 0, -1);
        Check.faulty(0, "\ntowns\n\n 2 \n;  ", 0, -1);
        Check.faulty(0, "towns2;bank1;", 0, -1);
        Check.faulty(0, "towns 02;bank 00;", 0, -1);
        Check.faulty(0, "towns 2", 1, 7);
        Check.faulty(0, "towns 2  ", 1, 9);
        Check.faulty(0, "towns", 1, 5);
        Check.faulty(0, "towns;", 1, 5);
        Check.faulty(0, "town 2;", 1, 0);
        Check.faulty(0, "townss 2;", 1, 0);
        Check.faulty(0, "townsz 2;", 1, 0);
        Check.faulty(0, "atowns 2;", 1, 0);
        Check.faulty(0, "z", 1, 0);
        Check.faulty(0, " Towns 2;", 1, 1);
        Check.faulty(0, "towns 2;;", 1, 8);
        Check.faulty(0, "towns 2 2;", 1, 8);
        Check.faulty(0, "towns 002;", 1, 6);
        Check.faulty(0, "road 0 1 123;", 1, 9);
        Check.faulty(0, "road 0 1 x;", 1, 9);
        Check.faulty(0, "road 0 1;", 1, 8);
        Check.faulty(0, "road 01 2;", 1, 9);
        Check.faulty(0, "towns\t2;", 1, 5);
        Check.faulty(0, "towns 2;\u0000", 1, 8);
        Check.faulty(0, "towns 2;\u00ff", 1, 8);
        Check.faulty(0, "towns -2;", 1, 6);
        Check.faulty(0, "towns 2:", 1, 7);
        Check.faulty(0, "3", 1, 0);
        Check.faulty(0, "towns 2;sell 0 0;", 1, 8);
        Check.faulty(1, "poor 0 0 0 0;", 1, 0);
        Check.faulty(1, "doubter;", 1, 0);
        Check.faulty(1, "doubt 1;", 1, 6);
        Check.faulty(1, "doubt;jubilee;open 0;shut 5;sell 7 3;sin 7 60;go 5;", 0, -1);
        Check.faulty(2, "in 0;out 99;count 5;key 5;", 0, -1);
        Check.faulty(2, "keys 5;", 1, 0);
        Check.faulty(3, "parties 4;worth 15 40;worth 1 0;", 0, -1);
        Check.faulty(3, "worth 1;", 1, 7);
        Check.faulty(3, "in 1;", 1, 0);
        Check.faulty(2, "worth 1 1;", 1, 0);
    }

    private static void numbersThatCannotBe() {
        Check.faulty(0, "towns 0;", 2, 6);
        Check.faulty(0, "towns 7;", 2, 6);
        Check.faulty(0, "towns 1;towns 6;", 0, -1);
        Check.faulty(0, "bank 6;", 2, 5);
        Check.faulty(0, "bank 5;ruler 5;", 0, -1);
        Check.faulty(0, "ruler 6;", 2, 6);
        Check.faulty(0, "shut 6;", 2, 5);
        Check.faulty(0, "poor 6 0 0 0;", 2, 5);
        Check.faulty(0, "knight 0 99 99 9;", 0, -1);
        Check.faulty(0, "knight 0 99 99 10;", 2, 15);
        Check.faulty(0, "widow 0 0 0 10;", 2, 12);
        Check.faulty(0, "doubter 7 0 0 10;", 2, 8);
        Check.faulty(0, "road 6 0 1;", 2, 5);
        Check.faulty(0, "road 0 6 1;", 2, 7);
        Check.faulty(0, "road 1 1 1;", 2, 7);
        Check.faulty(0, "road 7 7 1;", 2, 5);
        Check.faulty(0, "road 0 1 0;", 2, 9);
        Check.faulty(0, "road 0 1 10;", 2, 9);
        Check.faulty(0, "road 0 1 1;road 2 0 9;", 0, -1);
        Check.faulty(0, "letter 0 5;", 2, 7);
        Check.faulty(0, "letter 61 5;", 2, 7);
        Check.faulty(0, "letter 60 61;", 2, 10);
        Check.faulty(0, "letter 1 0;letter 60 60;", 0, -1);
        Check.faulty(1, "sell 8 0;", 2, 5);
        Check.faulty(1, "sell 7 4;", 2, 7);
        Check.faulty(1, "sin 8 1;", 2, 4);
        Check.faulty(1, "sin 0 0;", 2, 6);
        Check.faulty(1, "sin 0 61;", 2, 6);
        Check.faulty(1, "sin 0 1;", 0, -1);
        Check.faulty(1, "go 6;", 2, 3);
        Check.faulty(1, "shut 6;", 2, 5);
        Check.faulty(1, "open 6;", 2, 5);
        Check.faulty(2, "key 6;", 2, 4);
        Check.faulty(3, "parties 0;", 2, 8);
        Check.faulty(3, "parties 5;", 2, 8);
        Check.faulty(3, "worth 0 1;", 2, 6);
        Check.faulty(3, "parties 4;worth 16 1;", 2, 16);
        Check.faulty(3, "worth 1 41;", 2, 8);
    }

    private static void oneTooMany() {
        Check.faulty(0, "poor 0 0 0 0;".repeat(8), 0, -1);
        Check.faulty(0, "poor 0 0 0 0;".repeat(4) + "widow 0 0 0 0;knight 0 0 0 0;doubter 0 0 0 0;poor 0 0 0 0;widow 0 0 0 0;",
            3, 52 + 14 + 15 + 16 + 13);
        Check.faulty(0, "letter 1 1;".repeat(4), 0, -1);
        Check.faulty(0, "letter 1 1;".repeat(5), 3, 44);
        Check.faulty(1, "go 1;".repeat(40), 0, -1);
        Check.faulty(1, "go 1;".repeat(39) + "doubt; jubilee;", 3, 202);
        Check.faulty(2, "key 1;".repeat(20), 0, -1);
        Check.faulty(2, "key 1;".repeat(20) + "count 1;", 3, 120);
        Check.faulty(3, "worth 1 1;".repeat(50), 0, -1);
        Check.faulty(0, "road 0 1 1;".repeat(50), 0, -1);
    }

    private static void townsNotThere() {
        Check.faulty(0, "road 0 3 1;", 4, 11);
        Check.faulty(0, "road 0 3 1; ", 4, 12);
        Check.faulty(0, "road 3 0 1;", 4, 11);
        Check.faulty(0, "road 0 3 1;towns 4;", 0, -1);
        Check.faulty(0, "towns 4;road 0 3 1;towns 3;", 4, 27);
        Check.faulty(0, "shut 3;", 4, 7);
        Check.faulty(0, "shut 2;", 0, -1);
        Check.faulty(0, "poor 3 0 0 0;", 4, 13);
        Check.faulty(0, "towns 1;poor 0 0 0 0;", 0, -1);
        Check.faulty(0, "towns 1;poor 1 0 0 0;", 4, 21);
        Check.faulty(3, "worth 4 0;", 4, 10);
        Check.faulty(3, "worth 8 0;parties 4;", 0, -1);
        Check.faulty(3, "parties 1;worth 3 5;", 4, 20);
        Check.faulty(1, "go 5;sell 7 3;", 0, -1);
    }

    private static void firstFault() {
        Check.faulty(0, "towns 9;bank 9;", 2, 6);
        Check.faulty(0, "towns 9;shut 5;x", 1, 15);
        Check.faulty(0, "shut 5;bank 7;", 2, 12);
        Check.faulty(0, "shut 5;" + "letter 1 1;".repeat(5), 3, 51);
        Check.faulty(0, "letter 1 1;".repeat(4) + "letter 0 0;bank 9;", 3, 44);
        Check.faulty(0, "letter 1 1;".repeat(3) + "letter 0 0;letter 1 1;", 2, 40);
        Check.faulty(0, "letter 1 1;".repeat(5) + "letter", 1, 61);
        Check.faulty(1, "sin 9 99;sell 9 9;", 2, 4);
    }

    private static void landAsTold() {
        YearsForCoin x = Check.told(0, LAND);
        int[] plain = {4, 4, 2, 2, 5, 10, -1, -1, -1, -1};
        for (int what = 0; what < plain.length; what++) {
            Check.due("land " + what, x.land(0, what), plain[what]);
        }
        int[][] buyers = {{0, 2, 1, 3}, {0, 1, 2, 3}, {8, 6, 0, 99}, {20, 30, 12, 99}, {3, 2, 4, 9}};
        for (int row = 0; row < 5; row++) {
            for (int b = 0; b < 10; b++) {
                Check.due("land buyer", x.land(0, 10 + 10 * row + b), b < 4 ? buyers[row][b] : -1);
            }
        }
        int[][] letters = {{5, 60}, {9, 60}, {}, {}};
        for (int row = 0; row < 4; row++) {
            for (int l = 0; l < 10; l++) {
                Check.due("land letter", x.land(0, 60 + 10 * row + l), row < 2 && l < 2 ? letters[row][l] : -1);
            }
        }
        for (int t = 0; t < 6; t++) {
            for (int u = 0; u < 6; u++) {
                int road = t + u == 1 ? 2 : t + u == 4 && t != u && t * u == 3 ? 9 : 0;
                Check.due("land road " + t + " " + u, x.land(0, 100 + 6 * t + u), t > 3 || u > 3 ? -1 : road);
            }
        }
        for (int what : new int[] {-1, -2, -100, 136, 1000, Integer.MAX_VALUE, Integer.MIN_VALUE}) {
            Check.due("land other", x.land(0, what), -1);
        }
        for (int land : new int[] {-1, 1, 2, Integer.MAX_VALUE, Integer.MIN_VALUE}) {
            Check.due("no land", x.land(land, 0), -1);
        }
        YearsForCoin empty = Check.told(0, "");
        Check.tell(x, 0, "");
        int[] first = {3, 0, 0, 0, 0, 0};
        for (int what = 0; what < first.length; what++) {
            Check.due("at first " + what, empty.land(0, what), first[what]);
            Check.due("at first behind another " + what, x.land(1, what), first[what]);
        }
        Check.due("no road behind another", x.land(1, 101), 0);
        Check.due("no road", empty.land(0, 100 + 6 * 2 + 1), 0);
        Check.due("no town", empty.land(0, 100 + 6 * 2 + 3), -1);
        Check.due("no buyer", empty.land(0, 10), -1);
    }

    private static void fullLand() {
        StringBuilder text = new StringBuilder("towns 6;");
        String[] kinds = {"poor", "knight", "widow", "doubter"};
        for (int b = 0; b < 8; b++) {
            text.append(kinds[b % 4] + " " + b % 6 + " " + (20 + b) + " " + (90 - b) + " " + (b + 1) + ";");
        }
        for (int l = 0; l < 4; l++) {
            text.append("letter " + (30 + l) + " " + (50 + l) + ";");
        }
        YearsForCoin x = Check.told(0, text.toString());
        for (int b = 0; b < 8; b++) {
            int[] due = {b % 4, b % 6, 20 + b, 90 - b, b + 1};
            for (int row = 0; row < 5; row++) {
                Check.due("buyer " + b + " " + row, x.land(0, 10 + 10 * row + b), due[row]);
            }
        }
        for (int l = 0; l < 4; l++) {
            Check.due("years " + l, x.land(0, 60 + l), 30 + l);
            Check.due("price " + l, x.land(0, 70 + l), 50 + l);
        }
    }

    private static void laterOnesStrike() {
        YearsForCoin x = Check.told(0, "towns 2;towns 5;bank 1;bank 4;ruler 3;ruler 0;road 1 2 3;road 2 1 7;shut 1;shut 1;shut 4;");
        Check.due("towns", x.land(0, 0), 5);
        Check.due("bank", x.land(0, 3), 4);
        Check.due("ruler", x.land(0, 4), 0);
        Check.due("road", x.land(0, 100 + 8), 7);
        Check.due("road back", x.land(0, 100 + 13), 7);
        Check.due("shut", x.land(0, 5), 18);
        YearsForCoin y = Check.told(3, "parties 4;worth 3 9;worth 3 8;parties 3;");
        Check.due("parties", y.bargain(0, 0), 3);
        Check.due("worth", y.bargain(0, 3), 8);
        // A text in the place of one takes nothing over from it.
        Check.tape(x, "");
        Check.due("anew", x.text(0, 0), 0);
        Check.due("towns anew", x.land(0, 0), 3);
        Check.due("road anew", x.land(0, 100 + 8), 0);
        Check.due("shut anew", x.land(0, 5), 0);
    }

    private static void seasonAsTold() {
        YearsForCoin x = Check.told(1, "sell 7 3;sin 6 60;go 5;shut 4;open 3;doubt;jubilee;");
        int[][] due = {{0, 7, 3}, {1, 6, 60}, {2, 5, -1}, {3, 4, -1}, {4, 3, -1}, {5, -1, -1}, {6, -1, -1}};
        Check.due("deeds", x.deed(0, -1, 0), 7);
        for (int k = 0; k < 7; k++) {
            for (int what = 0; what < 3; what++) {
                Check.due("deed " + k + " " + what, x.deed(0, k, what), due[k][what]);
            }
            Check.due("deed 3", x.deed(0, k, 3), -2);
            Check.due("deed -1", x.deed(0, k, -1), -2);
        }
        Check.due("no deed", x.deed(0, 7, 0), -2);
        Check.due("no deed", x.deed(0, -2, 0), -2);
        Check.due("how many of what", x.deed(0, -1, 1), -2);
        Check.due("no season", x.deed(1, -1, 0), -2);
        Check.due("no season", x.deed(-1, 0, 0), -2);
    }

    private static void ledgerAsTold() {
        YearsForCoin x = Check.told(2, "in 9;out 2;key 5;count 8;count 6;");
        int[][] due = {{0, 9, -1, -1}, {1, 2, -1, -1}, {3, 5, -1, -1}, {2, 8, 0, 1}, {2, 6, 2, 0}};
        Check.due("entries", x.entry(0, -1, 0), 5);
        for (int k = 0; k < 5; k++) {
            for (int what = 0; what < 4; what++) {
                Check.due("entry " + k + " " + what, x.entry(0, k, what), due[k][what]);
            }
            Check.due("entry 4", x.entry(0, k, 4), -2);
            Check.due("entry -1", x.entry(0, k, -1), -2);
        }
        Check.due("no entry", x.entry(0, 5, 0), -2);
        Check.due("no entry", x.entry(0, -2, 0), -2);
        Check.due("how many of what", x.entry(0, -1, 2), -2);
        Check.due("no ledger", x.entry(1, -1, 0), -2);
    }

    private static void bargainAsTold() {
        YearsForCoin x = Check.told(3, "parties 3;worth 1 3;worth 7 40;worth 5 6;");
        int[] due = {3, 3, 0, 0, 0, 6, 0, 40};
        for (int what = 0; what < 20; what++) {
            Check.due("bargain " + what, x.bargain(0, what), what < 8 ? due[what] : -1);
        }
        Check.due("bargain -1", x.bargain(0, -1), -1);
        Check.due("no bargain", x.bargain(1, 0), -1);
        Check.tell(x, 3, "");
        Check.due("two at first behind another", x.bargain(1, 0), 2);
        Check.due("worth nothing behind another", x.bargain(1, 1), 0);
        YearsForCoin empty = Check.told(3, "");
        Check.due("two at first", empty.bargain(0, 0), 2);
        Check.due("worth nothing at first", empty.bargain(0, 3), 0);
        Check.due("no third", empty.bargain(0, 4), -1);
    }

    private static void images() {
        YearsForCoin x = new YearsForCoin();
        Check.due("image(3)", x.image(3), false);
        Check.due("image(-1)", x.image(-1), false);
        Check.due("image(2)", x.image(2), true);
        Check.tell(x, 0, LAND);
        Check.tell(x, 1, "go 1;");
        Check.tell(x, 2, "in 5;");
        Check.tell(x, 3, "worth 3 7;");
        Check.tape(x, "bank 9;");
        x.text(0, -1);
        Check.tape(x, "bank 5;");
        Check.due("image(0)", x.image(0), true);
        Check.due("again(1)", x.again(1), false);
        x.text(0, 0);
        Check.tape(x, "go 2;");
        x.text(1, 0);
        Check.tell(x, 1, "go 4;");
        Check.tape(x, "in 6;");
        x.text(2, 0);
        Check.tape(x, "worth 3 8;");
        x.text(3, 0);
        Check.due("image(1)", x.image(1), true);
        Check.due("again(0)", x.again(0), true);
        Check.due("fault", x.fault(0), 2);
        Check.due("place", x.fault(1), 5);
        Check.due("bank", x.land(0, 3), 2);
        Check.due("buyers", x.land(0, 1), 4);
        Check.due("road", x.land(0, 101), 2);
        Check.due("seasons", x.count(1), 1);
        Check.due("deed", x.deed(0, 0, 1), 1);
        Check.due("entry", x.entry(0, 0, 1), 5);
        Check.due("worth", x.bargain(0, 3), 7);
        Check.due("the tape", x.end(7), 7);
        Check.due("the tape is as it was", x.text(0, 0), 0);
        Check.due("bank", x.land(0, 3), 5);
        Check.due("again(1)", x.again(1), true);
        Check.due("seasons", x.count(1), 2);
        Check.due("deed", x.deed(1, 0, 1), 4);
        Check.due("entry", x.entry(0, 0, 1), 6);
        Check.due("worth", x.bargain(0, 3), 8);
        Check.due("an image stays as it was", x.again(0), true);
        Check.due("bank", x.land(0, 3), 2);
        Check.due("again(2)", x.again(2), true);
        Check.due("nothing", x.count(0) + x.count(1) + x.count(2) + x.count(3), 0);
        Check.due("no fault", x.fault(0), 0);
        Check.due("no tape", x.end(1), -1);
        Check.due("again(0)", x.again(0), true);
        Check.due("image over one", x.image(2), true);
        Check.due("again(1)", x.again(1), true);
        Check.due("again(2)", x.again(2), true);
        Check.due("bank", x.land(0, 3), 2);
        Check.due("again(3)", x.again(3), false);
        Check.due("again(-1)", x.again(-1), false);
    }
}
