import java.nio.charset.StandardCharsets;
import java.util.Arrays;

/** The edges of the tape and of its tokens: terms 1, promises 1 to 5 and 37, sentence by sentence. */
public final class TapeBoundsTest {
    private static final int MAX = Integer.MAX_VALUE;
    private static final int MIN = Integer.MIN_VALUE;

    public static void main(String[] args) {
        newObject();
        newObjectHasNoLand();
        feedUpToTheLastByte();
        refusedFeedBringsNothing();
        highestByteFirst();
        endWithinAndBeyond();
        bytesBehindTheEndAreGone();
        emptyTexts();
        fullTapes();
        rowsOverTheWholeTape();
        everyByteAlone();
        everyByteBehindTheLast();
        everyByteBetween();
        everyByteBehindADigit();
        oneOrTwoDigits();
        placesOfASort();
        noSuchSort();
        tapeIsTaken();
        faultOfTheLatest();
        countOfSorts();
        fiveHundredAndTwelveCalls();
        Check.exit("TapeBoundsTest");
    }

    private static byte[] bytes(String text) {
        return text.getBytes(StandardCharsets.ISO_8859_1);
    }

    /** A tape of just so many bytes, all of them blanks. */
    private static YearsForCoin blanks(int many) {
        YearsForCoin x = new YearsForCoin();
        byte[] tape = new byte[many];
        Arrays.fill(tape, (byte) 32);
        Check.tape(x, tape);
        return x;
    }

    private static void newObject() {
        Check.sentence("1: No LANDS, SEASONS, LEDGERS, BARGAINS; no images");
        YearsForCoin x = new YearsForCoin();
        for (int sort = 0; sort < 4; sort++) {
            Check.due("count(" + sort + ")", x.count(sort), 0);
            Check.due("text in the place of none, " + sort, x.text(sort, 0), -2);
        }
        for (int k = 0; k < 3; k++) {
            Check.due("again(" + k + ")", x.again(k), false);
        }
        Check.due("deed", x.deed(0, -1, 0), -2);
        Check.due("entry", x.entry(0, -1, 0), -2);
        Check.due("thieves", x.thieves(0, 0), -2);
        Check.due("opened", x.opened(0, false), -1);
        Check.due("bargain", x.bargain(0, 0), -1);
        Check.due("rows", x.rows(0, -1), -1);
        Check.due("fair", x.fair(0, 0, true), -1000);
        Check.due("power", x.power(0, 0), -1);
        Check.due("even", x.even(0, 0), -1000);
        Check.due("the tape is empty", x.end(1), -1);
        Check.due("no fault", x.fault(0), 0);
        Check.due("no place", x.fault(1), -1);
    }

    private static void newObjectHasNoLand() {
        Check.sentence("1: No LANDS");
        YearsForCoin x = new YearsForCoin();
        Check.due("land", x.land(0, 0), -1);
        Check.due("stop", x.stop(0, 0), -1);
        Check.due("state", x.state(0, 0, 0, 0), -1000);
        Check.due("after", x.after(0, 0, 0), -2);
        Check.due("drawn", x.drawn(0, 0, 0, 0), -1000);
        Check.due("takes", x.takes(0, 0, 1, 0), -1);
        Check.due("priced", x.priced(0, 1, -1, true), -1);
        Check.due("ranked", x.ranked(0, 1), -1);
        Check.due("sold", x.sold(0, 1, 0), -1);
        Check.due("days", x.days(0, 0, 0), -1);
        Check.due("tour", x.tour(0, 0, 0, -1), -1);
        Check.due("border", x.border(0, 0, 0, true), -1);
        Check.due("round", x.round(0, -1), -1);
        Check.due("reach", x.reach(0, 0), -1);
        Check.due("centre", x.centre(0, true), -1);
        Check.due("hold", x.hold(0, 0, -1), -1);
        Check.due("enough", x.enough(0, 0), -1);
        Check.due("until", x.until(0, 0, 0), -1);
        Check.due("poorer", x.poorer(0), -1);
    }

    private static void feedUpToTheLastByte() {
        Check.sentence("2: how many it has. NONE, and nothing comes, if there would be more than 600");
        for (int has = 0; has <= 600; has++) {
            YearsForCoin x = blanks(has);
            int due = has <= 580 ? has + 20 : -1;
            Check.due("feed behind " + has, x.feed(0, 0, 0, 0, 0), due);
            int holds = due == -1 ? has : due;
            Check.due("no more than " + holds, x.end(holds + 1), -1);
            Check.due("no less than " + holds, x.end(holds), holds);
        }
    }

    private static void refusedFeedBringsNothing() {
        Check.sentence("2: NONE, and nothing comes, if there would be more than 600");
        for (int has : new int[] {581, 590, 599, 600}) {
            YearsForCoin x = new YearsForCoin();
            byte[] tape = new byte[has];
            Arrays.fill(tape, (byte) 10);
            System.arraycopy(bytes("bank 4;"), 0, tape, has - 7, 7);
            Check.tape(x, tape);
            Check.due("feed", x.feed(-1, -1, -1, -1, -1), -1);
            Check.due("once more", x.feed(MIN, MAX, 0, 1, 2), -1);
            Check.due("the tape is as it was", x.text(0, -1), 0);
            Check.due("up to its last byte", x.land(0, 3), 4);
        }
    }

    private static void highestByteFirst() {
        Check.sentence("2: twenty bytes come behind it, of each number the highest first");
        for (int at = 0; at < 20; at++) {
            for (int odd : new int[] {0, 127, 128, 255}) {
                int[] five = new int[5];
                for (int i = 0; i < 20; i++) {
                    five[i / 4] |= (i == at ? odd : 32) << 24 - 8 * (i % 4);
                }
                YearsForCoin x = new YearsForCoin();
                Check.due("feed", x.feed(five[0], five[1], five[2], five[3], five[4]), 20);
                Check.due("the odd byte " + odd + " at " + at, x.text(0, -1), -1);
                Check.due("its place", x.fault(1), at);
            }
        }
    }

    private static void endWithinAndBeyond() {
        Check.sentence("3: its first n bytes alone: n. NONE if it has not so many, or n is below 0");
        for (int has : new int[] {0, 1, 20, 299, 600}) {
            YearsForCoin x = blanks(has);
            for (int n : new int[] {has + 1, has + 20, 601, MAX, -1, -600, MIN}) {
                Check.due("end(" + n + ") of " + has, x.end(n), -1);
            }
            Check.due("refused calls leave all of it", x.end(has), has);
            if (has > 0) {
                Check.due("one less", x.end(has - 1), has - 1);
                Check.due("which it has no more", x.end(has), -1);
            }
            Check.due("none", x.end(0), 0);
            Check.due("none left", x.end(1), -1);
            Check.due("none once more", x.end(0), 0);
        }
    }

    private static void bytesBehindTheEndAreGone() {
        Check.sentence("3: The tape has its first n bytes alone");
        YearsForCoin x = new YearsForCoin();
        Check.tape(x, "bank 1;ruler 2;");
        Check.due("end", x.end(7), 7);
        Check.due("text", x.text(0, -1), 0);
        Check.due("bank", x.land(0, 3), 1);
        Check.due("ruler", x.land(0, 4), 0);
        Check.tape(x, "bank 12;");
        Check.due("within a line", x.end(6), 6);
        Check.due("no end of it", x.text(0, -1), -1);
        Check.due("fault", x.fault(0), 1);
        Check.due("at the end's place", x.fault(1), 6);
        Check.tape(x, "bank 55;");
        Check.due("within a number", x.end(6), 6);
        Check.due("what comes, comes behind it", x.feed(0x3b202020, 0x20202020, 0x20202020, 0x20202020, 0x20202020), 26);
        Check.due("text", x.text(0, 0), 0);
        Check.due("of one digit", x.land(0, 3), 5);
        Check.tape(x, "towns 6;");
        Check.due("within a word", x.end(4), 4);
        Check.due("no such word", x.text(0, 0), -1);
        Check.due("its place", x.fault(1), 0);
    }

    private static void emptyTexts() {
        Check.sentence("terms 1: {..} of each sort's text; 4: The tape is taken as a text");
        for (int sort = 0; sort < 4; sort++) {
            Check.good(sort, "");
            Check.good(sort, " ");
            Check.good(sort, "\n");
        }
        YearsForCoin x = new YearsForCoin();
        for (int sort = 0; sort < 4; sort++) {
            Check.due("text", x.text(sort, -1), 0);
        }
        Check.due("towns", x.land(0, 0), 3);
        Check.due("no deeds", x.deed(0, -1, 0), 0);
        Check.due("no entries", x.entry(0, -1, 0), 0);
        Check.due("parties", x.bargain(0, 0), 2);
    }

    private static void fullTapes() {
        Check.sentence("terms 1: THE TAPE has at most 600 bytes; with places (a token's first byte; the end's)");
        Check.good(0, "towns 1;".repeat(75));
        Check.good(0, " ".repeat(593) + "bank 1;");
        Check.good(0, "bank 1;" + "\n".repeat(593));
        Check.faulty(0, "towns 1;".repeat(74) + "towns 1x", 1, 599);
        Check.faulty(0, "towns 1;".repeat(74) + "towns  1", 1, 600);
        Check.faulty(0, "towns 1;".repeat(74) + "towns 7;", 2, 598);
        Check.faulty(0, "shut 5; ".repeat(75), 4, 600);
        Check.faulty(3, "worth 8 1;".repeat(60), 4, 600);
        Check.good(3, "worth 3 1;".repeat(60));
        Check.faulty(0, "towns 1;".repeat(74) + "       z", 1, 599);
        Check.faulty(0, "towns 1;".repeat(74) + "       1", 1, 599);
        Check.faulty(0, "towns 1;".repeat(74) + "       ;", 1, 599);
    }

    private static void rowsOverTheWholeTape() {
        Check.sentence("terms 1: TOKENS, as long as they go; a longer row of digits is no token");
        for (int many : new int[] {1, 2, 3, 10, 19, 20, 600}) {
            Check.faulty(0, "a".repeat(many), 1, 0);
            Check.faulty(0, "9".repeat(many), 1, 0);
            Check.faulty(0, ";".repeat(many), 1, 0);
            Check.good(0, " ".repeat(many));
        }
        Check.faulty(0, "bank " + "1".repeat(595), 1, 5);
        Check.faulty(0, "bank " + "0".repeat(594) + ";", 1, 5);
    }

    private static boolean isLetter(int sign) {
        return sign >= 97 && sign <= 122;
    }

    private static boolean isDigit(int sign) {
        return sign >= 48 && sign <= 57;
    }

    private static byte[] with(String ahead, int sign, String behind) {
        return bytes(ahead + (char) sign + behind);
    }

    private static void everyByteAlone() {
        Check.sentence("terms 1: blanks (10, 32); 1 the first byte or token with which no text goes on");
        for (int sign = 0; sign < 256; sign++) {
            boolean blank = sign == 10 || sign == 32;
            for (int sort = 0; sort < 4; sort++) {
                Check.faulty(sort, with("", sign, ""), blank ? 0 : 1, blank ? -1 : 0);
            }
            Check.faulty(0, with("", sign, "bank 1;"), blank ? 0 : 1, blank ? -1 : 0);
        }
    }

    private static void everyByteBehindTheLast() {
        Check.sentence("terms 1: blanks (10, 32); 1 the first byte or token with which no text goes on");
        for (int sign = 0; sign < 256; sign++) {
            boolean blank = sign == 10 || sign == 32;
            Check.faulty(0, with("bank 1;", sign, ""), blank ? 0 : 1, blank ? -1 : 7);
            boolean done = sign == ';';
            Check.faulty(0, with("bank 1", sign, ""), done ? 0 : 1, done ? -1 : blank || isDigit(sign) ? 7 : 6);
        }
    }

    private static void everyByteBetween() {
        Check.sentence("terms 1: words, rows of letters a .. z; NUMBERS; blanks (10, 32) between");
        for (int sign = 0; sign < 256; sign++) {
            boolean blank = sign == 10 || sign == 32 || sign == '0';
            int fault = blank ? 0 : isDigit(sign) ? 2 : 1;
            Check.faulty(0, with("bank", sign, "1;"), fault, blank ? -1 : isLetter(sign) ? 0 : 4);
        }
    }

    private static void everyByteBehindADigit() {
        Check.sentence("terms 1: NUMBERS, 1 or 2 digits; ; one byte");
        for (int sign = 0; sign < 256; sign++) {
            boolean blank = sign == 10 || sign == 32;
            int fault = blank ? 0 : isDigit(sign) ? 2 : 1;
            Check.faulty(0, with("bank 1", sign, ";"), fault, blank ? -1 : fault == 2 ? 5 : sign == ';' ? 7 : 6);
        }
    }

    private static void oneOrTwoDigits() {
        Check.sentence("terms 1: NUMBERS, 1 or 2 digits (a longer row of digits is no token)");
        Check.faulty(0, "bank ;", 1, 5);
        Check.good(0, "bank 0;bank 5;bank 00;bank 05;");
        YearsForCoin x = Check.told(0, "bank 05;letter 60 09;letter 09 60;poor 00 99 09 9;");
        Check.due("05", x.land(0, 3), 5);
        Check.due("60", x.land(0, 60), 60);
        Check.due("09", x.land(0, 70), 9);
        Check.due("09", x.land(0, 61), 9);
        Check.due("99", x.land(0, 30), 99);
        for (String row : new String[] {"000", "001", "005", "100", "256", "999", "0000000001", "65537", "4294967297", "4294967296",
            "2147483648", "18446744073709551617"}) {
            Check.faulty(0, "bank " + row + ";", 1, 5);
            Check.faulty(0, "poor 0 " + row + " 0 0;", 1, 7);
            Check.faulty(1, "sin 0 " + row + ";", 1, 6);
            Check.faulty(2, "in " + row + ";", 1, 3);
            Check.faulty(3, "worth 1 " + row + ";", 1, 8);
            Check.faulty(0, "bank 9;towns 9;ruler " + row + ";", 1, 21);
        }
    }

    private static void placesOfASort() {
        Check.sentence("4: a further one (at NONE), or in the place of one: its number. -2: there is none such, as many as may be");
        String[] texts = {"bank 1;", "doubt;", "in 1;", "worth 1 1;"};
        for (int sort = 0; sort < 4; sort++) {
            YearsForCoin x = new YearsForCoin();
            for (int many = 0; many <= 2; many++) {
                for (int at = -3; at <= 3; at++) {
                    if (at != -1) {
                        Check.tape(x, texts[sort]);
                        Check.due("text(" + sort + ", " + at + ") of " + many, x.text(sort, at), at >= 0 && at < many ? at : -2);
                    }
                }
                for (int at : new int[] {MAX, MIN, MIN + 1, 256, 65536}) {
                    Check.tape(x, texts[sort]);
                    Check.due("text(" + sort + ", " + at + ") of " + many, x.text(sort, at), -2);
                }
                Check.tape(x, "oops");
                Check.due("a faulty one of " + many, x.text(sort, -1), many < 2 ? -1 : -2);
                Check.due("is none", x.count(sort), many);
                Check.tape(x, texts[sort]);
                Check.due("a further one of " + many, x.text(sort, -1), many < 2 ? many : -2);
                Check.due("then", x.count(sort), Math.min(many + 1, 2));
                for (int other = 0; other < 4; other++) {
                    Check.due("other sorts", other == sort ? 0 : x.count(other), 0);
                }
            }
        }
    }

    private static void noSuchSort() {
        Check.sentence("4: -2: .. or no such sort (no text is read then, FAULT 0)");
        for (int sort : new int[] {-1, 4, 5, -2, MAX, MIN, 256, 1 << 30}) {
            for (int at : new int[] {-1, 0, 1, 2, -2, MAX, MIN}) {
                YearsForCoin x = new YearsForCoin();
                Check.tape(x, "oops");
                Check.due("a fault", x.text(0, -1), -1);
                Check.tape(x, "bank 9;");
                Check.due("text(" + sort + ", " + at + ")", x.text(sort, at), -2);
                Check.due("FAULT 0", x.fault(0), 0);
                Check.due("no place", x.fault(1), -1);
                Check.due("no land", x.count(0) + x.count(1) + x.count(2) + x.count(3), 0);
            }
        }
    }

    private static void tapeIsTaken() {
        Check.sentence("4: The tape is taken (and is empty then)");
        String[] tapes = {"", "bank 1;", "bank 9;", "x".repeat(600)};
        for (String tape : tapes) {
            for (int[] of : new int[][] {{0, -1}, {0, 0}, {0, 1}, {1, -1}, {4, -1}, {-1, 0}}) {
                YearsForCoin x = Check.told(0, "");
                Check.tape(x, tape);
                x.text(of[0], of[1]);
                Check.due("no byte is left", x.end(1), -1);
                Check.due("what comes is all there is", x.feed(0x62616e6b, 0x20333b20, 0x20202020, 0x20202020, 0x20202020), 20);
                Check.due("and is read", x.text(0, 0), 0);
                Check.due("alone", x.land(0, 3), 3);
            }
        }
    }

    private static void faultOfTheLatest() {
        Check.sentence("5: Of the latest text(), what 0: the FAULT, 0 without, 1: its place, NONE without. NONE for another what");
        YearsForCoin x = new YearsForCoin();
        int[][] due = {{0, -1}, {1, 0}, {2, 5}, {4, 7}, {0, -1}};
        String[] tapes = {"bank 1;", "oops", "bank 6;", "shut 3;", ""};
        for (int i = 0; i < tapes.length; i++) {
            Check.tape(x, tapes[i]);
            Check.due("text", x.text(0, -1), due[i][0] == 0 ? x.count(0) - 1 : -1);
            // Neither the tape nor any question changes it.
            Check.tape(x, "oops");
            x.end(-1);
            x.land(9, 9);
            Check.due("fault", x.fault(0), due[i][0]);
            Check.due("place", x.fault(1), due[i][1]);
            for (int what : new int[] {-1, 2, 3, -2, MAX, MIN}) {
                Check.due("fault(" + what + ")", x.fault(what), -1);
            }
        }
    }

    private static void countOfSorts() {
        Check.sentence("37: How many there are of a sort. -2 for another one");
        YearsForCoin x = new YearsForCoin();
        for (int sort = 0; sort < 4; sort++) {
            for (int many = 0; many < 4; many++) {
                Check.due("count(" + sort + ")", x.count(sort), Math.min(many, 2));
                x.text(sort, -1);
            }
        }
        for (int sort : new int[] {-1, -2, 4, 5, MAX, MIN}) {
            Check.due("count(" + sort + ")", x.count(sort), -2);
        }
    }

    private static void fiveHundredAndTwelveCalls() {
        Check.sentence("An object is used for at most 512 calls after it has been made");
        YearsForCoin x = new YearsForCoin();
        Check.due("1", x.feed(0x62616e6b, 0x20333b20, 0x20202020, 0x20202020, 0x20202020), 20);
        Check.due("2", x.text(0, -1), 0);
        for (int call = 3; call < 512; call++) {
            switch (call % 4) {
                case 0: Check.due("feed " + call, x.feed(call, 0, 0, 0, 0), 20); break;
                case 1: Check.due("end " + call, x.end(0), 0); break;
                case 2: Check.due("image " + call, x.image(call % 3), true); break;
                default: Check.due("again " + call, x.again(0), call > 6); break;
            }
        }
        Check.due("512", x.land(0, 3), 3);
    }
}
