/** The edges of what may be told, and of asking for it: terms 1, promises 6, 7, 16, 18, sentence by sentence. */
public final class TextBoundsTest {
    private static final int MAX = Integer.MAX_VALUE;
    private static final int MIN = Integer.MIN_VALUE;
    private static final int[] NOT_THERE = {-1, -2, 1, 2, 3, MAX, MIN};
    private static final String[] KINDS = {"poor", "knight", "widow", "doubter"};
    private static final String[] DEEDS = {"sell 0 0;", "sin 0 1;", "go 0;", "shut 0;", "open 0;", "doubt;", "jubilee;"};
    private static final String[] ENTRIES = {"in 0;", "out 0;", "count 0;", "key 0;"};

    public static void main(String[] args) {
        numbersOfLands();
        townsOfRoads();
        numbersOfSeasons();
        numbersOfLedgers();
        numbersOfBargains();
        howManyNumbers();
        wordsOfOtherSorts();
        buyersUpToEight();
        lettersUpToFour();
        deedsUpToForty();
        entriesUpToTwenty();
        linesWithoutLimit();
        townsThatAreNotThere();
        partiesThatAreNotThere();
        firstFaultOfAll();
        firstByPlace();
        faultyLinesTellAllTheSame();
        aFaultTellsNothing();
        atFirst();
        laterOnesStrike();
        furtherOnes();
        landWhat();
        landOfFewer();
        deedWhat();
        entryWhat();
        bargainWhat();
        Check.exit("TextBoundsTest");
    }

    /** A line with every number that one or two digits can tell, and one beyond them; # stands for the number. */
    private static void number(int sort, String line, int least, int greatest) {
        int place = line.indexOf('#');
        for (int n = 0; n <= 99; n++) {
            boolean may = n >= least && n <= greatest;
            Check.faulty(sort, line.replace("#", "" + n), may ? 0 : 2, may ? -1 : place);
        }
        Check.faulty(sort, line.replace("#", "100"), 1, place);
        Check.faulty(sort, line.replace("#", "-1"), 1, place);
    }

    private static void numbersOfLands() {
        Check.sentence("terms 1: a TOWN, OWED, 0 .. 99 years, MEANS, 0 .. 99 coins, FEAR, 0 .. 9");
        for (String kind : KINDS) {
            number(0, "towns 6;" + kind + " # 0 0 0;", 0, 5);
            number(0, kind + " 0 # 0 0;", 0, 99);
            number(0, kind + " 0 0 # 0;", 0, 99);
            number(0, kind + " 0 0 0 #;", 0, 9);
        }
        Check.sentence("terms 1: TOWNS, 1 .. 6; days, 1 .. 9; YEARS, 1 .. 60, a PRICE, 0 .. 60; BANK, RULER, 0 .. 5");
        number(0, "towns #;", 1, 6);
        number(0, "towns 6;shut #;", 0, 5);
        number(0, "bank #;", 0, 5);
        number(0, "ruler #;", 0, 5);
        number(0, "letter # 0;", 1, 60);
        number(0, "letter 1 #;", 0, 60);
        number(0, "road 0 1 #;", 1, 9);
    }

    private static void townsOfRoads() {
        Check.sentence("terms 1: of road the second TOWN, if it is the first");
        for (int from = 0; from <= 9; from++) {
            for (int to = 0; to <= 9; to++) {
                int place = from > 5 ? 13 : to > 5 || to == from ? 15 : -1;
                Check.faulty(0, "towns 6;road " + from + " " + to + " 1;", place == -1 ? 0 : 2, place);
            }
        }
        Check.faulty(0, "road 01 1 1;", 2, 8);
        // The days are no TOWN, nor is a TOWN of another line.
        Check.good(0, "road 0 2 2;road 1 2 1;road 2 1 2;");
        Check.good(0, "letter 1 1;poor 1 1 1 1;");
    }

    private static void numbersOfSeasons() {
        Check.sentence("terms 1: sell: a BUYER, 0 .. 7, a LETTER, 0 .. 3; sin: a BUYER, years, 1 .. 60; go and so on: a TOWN, 0 .. 5");
        number(1, "sell # 0;", 0, 7);
        number(1, "sell 0 #;", 0, 3);
        number(1, "sin # 1;", 0, 7);
        number(1, "sin 0 #;", 1, 60);
        number(1, "go #;", 0, 5);
        number(1, "shut #;", 0, 5);
        number(1, "open #;", 0, 5);
    }

    private static void numbersOfLedgers() {
        Check.sentence("terms 1: coins, 0 .. 99; key: who opens the chest, 0 .. 5");
        number(2, "in #;", 0, 99);
        number(2, "out #;", 0, 99);
        number(2, "count #;", 0, 99);
        number(2, "key #;", 0, 5);
    }

    private static void numbersOfBargains() {
        Check.sentence("terms 1: PARTIES, 1 .. 4; a set of them (bits, 1 .. 15) is WORTH, 0 .. 40");
        number(3, "parties #;", 1, 4);
        number(3, "parties 4;worth # 0;", 1, 15);
        number(3, "worth 1 #;", 0, 40);
    }

    /** A word, as many numbers as it has, and the semicolon: one number less, one more, none, no semicolon. */
    private static void line(int sort, String word, int many) {
        String whole = word + " 1 2 1 1".substring(0, 2 * many);
        Check.faulty(sort, whole + " 1;", 1, whole.length() + 1);
        Check.faulty(sort, whole, 1, whole.length());
        Check.faulty(sort, whole + "  ", 1, whole.length() + 2);
        Check.faulty(sort, whole + " " + word + ";", 1, whole.length() + 1);
        Check.faulty(sort, whole + ";;", 1, whole.length() + 1);
        Check.good(sort, whole + " ;");
        for (int fewer = 0; fewer < many; fewer++) {
            String part = word + " 1 2 1 1".substring(0, 2 * fewer);
            Check.faulty(sort, part + ";", 1, part.length());
            Check.faulty(sort, part + " x;", 1, part.length() + 1);
            Check.faulty(sort, part, 1, part.length());
        }
        Check.faulty(sort, word + "s 1;", 1, 0);
        Check.faulty(sort, word.substring(1) + " 1;", 1, 0);
        Check.faulty(sort, (char) (word.charAt(0) - 32) + word.substring(1) + " 1;", 1, 0);
        for (int i = 0; i < word.length(); i++) {
            Check.faulty(sort, word.substring(0, i) + "q" + whole.substring(i + 1) + ";", 1, 0);
        }
        String shorter = word.substring(0, word.length() - 1);
        Check.faulty(sort, shorter + " " + word.substring(word.length() - 1) + ";", 1, 0);
    }

    private static void howManyNumbers() {
        Check.sentence("terms 1: 1 the first byte or token with which no text goes on");
        for (String kind : KINDS) {
            line(0, kind, 4);
        }
        line(0, "road", 3);
        line(0, "letter", 2);
        for (String word : new String[] {"towns", "shut", "bank", "ruler"}) {
            line(0, word, 1);
        }
        line(1, "sell", 2);
        line(1, "sin", 2);
        for (String word : new String[] {"go", "shut", "open"}) {
            line(1, word, 1);
        }
        line(1, "doubt", 0);
        line(1, "jubilee", 0);
        for (String word : new String[] {"in", "out", "count", "key"}) {
            line(2, word, 1);
        }
        line(3, "parties", 1);
        line(3, "worth", 2);
    }

    private static void wordsOfOtherSorts() {
        Check.sentence("terms 1: A LAND's text: .. A SEASON's text: .. A LEDGER's text: .. A BARGAIN's text: ..");
        String[][] lines = {
            {"poor 0 0 0 0;", "knight 0 0 0 0;", "widow 0 0 0 0;", "doubter 0 0 0 0;", "road 0 1 1;", "letter 1 1;", "towns 3;", "bank 1;",
                "ruler 1;", "shut 1;"},
            {"sell 0 0;", "sin 0 1;", "go 1;", "open 1;", "doubt;", "jubilee;", "shut 1;"},
            {"in 1;", "out 1;", "count 1;", "key 1;"},
            {"parties 2;", "worth 1 1;"}};
        for (int of = 0; of < 4; of++) {
            for (String line : lines[of]) {
                for (int sort = 0; sort < 4; sort++) {
                    boolean may = sort == of || line.equals("shut 1;") && sort < 2;
                    Check.faulty(sort, line, may ? 0 : 1, may ? -1 : 0);
                }
            }
        }
    }

    private static void buyersUpToEight() {
        Check.sentence("terms 1: BUYERS, at most 8; 3 a 9th BUYER, at its first token");
        for (String kind : KINDS) {
            String line = kind + " 0 0 0 0;";
            for (int many = 7; many <= 12; many++) {
                boolean may = many <= 8;
                Check.faulty(0, line.repeat(many), may ? 0 : 3, may ? -1 : 8 * line.length());
            }
            // Lines of other words between them do not count.
            Check.good(0, (line + "bank 1;letter 1 1;").repeat(4) + line.repeat(4) + "road 0 1 1;shut 1;");
        }
        for (String kind : KINDS) {
            String eight = "poor 0 0 0 0;knight 0 0 0 0;widow 0 0 0 0;doubter 0 0 0 0;".repeat(2);
            Check.good(0, eight);
            Check.faulty(0, eight + " \n" + kind + " 0 0 0 0;", 3, eight.length() + 2);
            Check.faulty(0, eight + "bank 1;" + kind + " 0 0 0 0;", 3, eight.length() + 7);
        }
        for (int many = 0; many <= 8; many++) {
            Check.due("buyers", Check.told(0, "poor 0 0 0 0;".repeat(many)).land(0, 1), many);
        }
    }

    private static void lettersUpToFour() {
        Check.sentence("terms 1: LETTERS, at most 4; 3 a 5th LETTER, at its first token");
        for (int many = 0; many <= 9; many++) {
            boolean may = many <= 4;
            Check.faulty(0, "letter 1 0;".repeat(many), may ? 0 : 3, may ? -1 : 44);
            if (may) {
                Check.due("letters", Check.told(0, "letter 1 0;".repeat(many)).land(0, 2), many);
            }
        }
        Check.faulty(0, "letter 1 0;".repeat(4) + "poor 0 0 0 0; letter 1 0;", 3, 58);
        Check.good(0, "letter 1 0;".repeat(4) + "poor 0 0 0 0;".repeat(8));
    }

    private static void deedsUpToForty() {
        Check.sentence("terms 1: A SEASON has DEEDS, at most 40; 3 a 41st DEED, at its first token");
        for (String deed : DEEDS) {
            Check.good(1, deed.repeat(39));
            Check.good(1, deed.repeat(40));
            Check.faulty(1, deed.repeat(41), 3, 40 * deed.length());
            Check.faulty(1, "doubt;".repeat(40) + " " + deed, 3, 241);
            Check.good(1, "doubt;".repeat(39) + " " + deed);
            Check.due("deeds", Check.told(1, deed.repeat(40)).deed(0, -1, 0), 40);
        }
        Check.faulty(1, "go 0;".repeat(60), 3, 200);
    }

    private static void entriesUpToTwenty() {
        Check.sentence("terms 1: A LEDGER has ENTRIES, at most 20; 3 a 21st ENTRY, at its first token");
        for (String entry : ENTRIES) {
            Check.good(2, entry.repeat(19));
            Check.good(2, entry.repeat(20));
            Check.faulty(2, entry.repeat(21), 3, 20 * entry.length());
            Check.faulty(2, "out 1;".repeat(20) + "\n" + entry, 3, 121);
            Check.good(2, "out 1;".repeat(19) + "\n" + entry);
            Check.due("entries", Check.told(2, entry.repeat(20)).entry(0, -1, 0), 20);
        }
    }

    private static void linesWithoutLimit() {
        Check.sentence("terms 1: Later ones strike (road ..), but SHUT ones, BUYERS, LETTERS, DEEDS, ENTRIES, which are further ones");
        for (String line : new String[] {"towns 3;", "shut 1;", "bank 1;", "ruler 1;", "road 0 1 1;"}) {
            Check.good(0, line.repeat(600 / line.length()));
        }
        Check.good(3, "parties 2;".repeat(60));
        Check.good(3, "worth 1 1;".repeat(60));
    }

    private static void townsThatAreNotThere() {
        Check.sentence("terms 1: at the end's place: 4 of a LAND a TOWN that was told of and is not there");
        for (int towns = 1; towns <= 6; towns++) {
            for (int town = 0; town < 6; town++) {
                int fault = town < towns ? 0 : 4;
                String[] lines = {"shut " + town + ";", "poor " + town + " 0 0 0;", "knight " + town + " 0 0 0;",
                    "widow " + town + " 0 0 0;", "doubter " + town + " 0 0 0;"};
                for (String line : lines) {
                    Check.faulty(0, "towns " + towns + ";" + line, fault, fault == 0 ? -1 : 8 + line.length());
                    // TOWNS may be told later, and is told of by the last one.
                    Check.faulty(0, line + "towns " + towns + ";", fault, fault == 0 ? -1 : 8 + line.length());
                    Check.faulty(0, "towns 6;" + line + "towns " + towns + "; ", fault, fault == 0 ? -1 : 17 + line.length());
                }
                for (int to = 0; to < 6; to++) {
                    boolean there = town < towns && to < towns;
                    if (to != town) {
                        Check.faulty(0, "towns " + towns + ";road " + town + " " + to + " 1;", there ? 0 : 4, there ? -1 : 19);
                    }
                }
            }
        }
        Check.good(0, "shut 2;");
        Check.faulty(0, "shut 3;", 4, 7);
        // Whatever is told of behind it, one TOWN that is not there is enough.
        String[] lines = {"shut #;", "poor # 0 0 0;", "road 1 # 1;", "road # 1 1;"};
        for (String one : lines) {
            for (String other : lines) {
                int end = one.length() + other.length();
                Check.faulty(0, one.replace("#", "3") + other.replace("#", "0"), 4, end);
                Check.faulty(0, one.replace("#", "0") + other.replace("#", "3"), 4, end);
                Check.good(0, one.replace("#", "2") + other.replace("#", "0"));
            }
        }
        // A ROAD that another one strikes was told of.
        Check.faulty(0, "towns 4;road 0 3 1;road 3 0 2;towns 3;", 4, 38);
        // Of a SEASON no TOWN is looked for.
        Check.good(1, "go 5;shut 5;open 5;sell 7 3;sin 7 60;");
    }

    private static void partiesThatAreNotThere() {
        Check.sentence("terms 1: 4 .. of a BARGAIN a party likewise");
        for (int parties = 1; parties <= 4; parties++) {
            for (int set = 1; set <= 15; set++) {
                int fault = set < 1 << parties ? 0 : 4;
                String line = "worth " + set + " 0;";
                Check.faulty(3, "parties " + parties + ";" + line, fault, fault == 0 ? -1 : 10 + line.length());
                Check.faulty(3, line + "parties " + parties + ";", fault, fault == 0 ? -1 : 10 + line.length());
            }
        }
        Check.good(3, "worth 3 1;");
        Check.faulty(3, "worth 4 1;", 4, 10);
        Check.faulty(3, "worth 4 1;worth 3 1;", 4, 20);
        Check.faulty(3, "worth 3 1;worth 4 1;", 4, 20);
        // The numbers of a LEDGER are of no party.
        Check.good(2, "key 5;in 99;");
    }

    private static void firstFaultOfAll() {
        Check.sentence("terms 1: 1 the first byte or token .. If there is none, the first by place: 2, 3. If there is none of these: 4");
        Check.faulty(0, "towns 9;x", 1, 8);
        Check.faulty(0, "letter 1 1;".repeat(5) + "#", 1, 55);
        Check.faulty(0, "shut 5;1", 1, 7);
        Check.faulty(0, "towns 9;shut 5;bank 123;", 1, 20);
        Check.faulty(0, "bank 123;x", 1, 5);
        Check.faulty(0, "x;bank 123;", 1, 0);
        Check.faulty(0, "shut 5;bank 6;", 2, 12);
        Check.faulty(0, "bank 6;shut 5;", 2, 5);
        Check.faulty(0, "shut 5;" + "letter 1 1;".repeat(5), 3, 51);
        Check.faulty(3, "worth 15 1;worth 1 41;", 2, 19);
        Check.faulty(3, "worth 15 1;", 4, 11);
    }

    private static void firstByPlace() {
        Check.sentence("terms 1: the first by place, of one place the least");
        Check.faulty(0, "letter 1 1;".repeat(4) + "bank 6;letter 1 1;", 2, 49);
        Check.faulty(0, "letter 1 1;".repeat(5) + "bank 6;", 3, 44);
        Check.faulty(0, "letter 1 1;".repeat(4) + "letter 0 61;", 3, 44);
        Check.faulty(0, "letter 61 61;", 2, 7);
        Check.faulty(0, "letter 60 61;", 2, 10);
        Check.faulty(0, "poor 6 0 0 10;poor 0 0 0 10;", 2, 5);
        Check.faulty(0, "poor 0 0 0 0;".repeat(8) + "letter 1 1;".repeat(5) + "poor 0 0 0 0;", 3, 148);
        Check.faulty(0, "letter 1 1;".repeat(4) + "poor 0 0 0 0;".repeat(9) + "letter 1 1;", 3, 148);
        Check.faulty(1, "go 0;".repeat(39) + "go 6;go 0;", 2, 198);
        Check.faulty(1, "go 0;".repeat(40) + "go 6;go 0;", 3, 200);
        Check.faulty(2, "key 6;" + "key 5;".repeat(20), 2, 4);
        Check.faulty(2, "key 5;".repeat(20) + "key 6;", 3, 120);
    }

    private static void faultyLinesTellAllTheSame() {
        Check.sentence("terms 1: a line with such a NUMBER tells its BUYER, LETTER, DEED, ENTRY all the same");
        Check.faulty(0, "letter 1 1;".repeat(3) + "letter 0 0;letter 1 1;", 2, 40);
        Check.faulty(0, "poor 0 0 0 10;" + "poor 0 0 0 0;".repeat(8), 2, 11);
        Check.faulty(1, "sin 0 0;" + "doubt;".repeat(40), 2, 6);
        Check.faulty(2, "key 9;" + "in 1;".repeat(20), 2, 4);
    }

    private static void aFaultTellsNothing() {
        Check.sentence("4: NONE: a FAULT");
        String[] faulty = {"towns 5;bank 6;", "towns 5;x", "towns 5;" + "letter 1 1;".repeat(5), "towns 2;shut 2;"};
        for (String text : faulty) {
            YearsForCoin x = Check.told(0, "bank 2;poor 1 2 3 4;");
            Check.tape(x, text);
            Check.due("in its place", x.text(0, 0), -1);
            Check.due("towns", x.land(0, 0), 3);
            Check.due("buyers", x.land(0, 1), 1);
            Check.due("letters", x.land(0, 2), 0);
            Check.due("bank", x.land(0, 3), 2);
            Check.tape(x, text);
            Check.due("further", x.text(0, -1), -1);
            Check.due("lands", x.count(0), 1);
            Check.due("what follows has nothing of it", Check.tell(x, 0, ""), 1);
            Check.due("towns", x.land(1, 0), 3);
            Check.due("letters", x.land(1, 2), 0);
            Check.due("shut", x.land(1, 5), 0);
        }
    }

    private static void atFirst() {
        Check.sentence("terms 1: TOWNS (3 at first); ROADS (none at first); BANK, RULER (0 at first); PARTIES (2 at first); WORTH (0 at first)");
        YearsForCoin x = new YearsForCoin();
        for (int sort = 0; sort < 4; sort++) {
            Check.due("text", x.text(sort, -1), 0);
        }
        int[] due = {3, 0, 0, 0, 0, 0};
        for (int what = 0; what < 6; what++) {
            Check.due("land " + what, x.land(0, what), due[what]);
        }
        for (int t = 0; t < 3; t++) {
            for (int u = 0; u < 3; u++) {
                Check.due("road", x.land(0, 100 + 6 * t + u), 0);
            }
        }
        Check.due("deeds", x.deed(0, -1, 0), 0);
        Check.due("entries", x.entry(0, -1, 0), 0);
        Check.due("parties", x.bargain(0, 0), 2);
        for (int set = 1; set < 4; set++) {
            Check.due("worth", x.bargain(0, set), 0);
        }
        YearsForCoin four = Check.told(3, "parties 4;");
        for (int set = 1; set < 16; set++) {
            Check.due("worth", four.bargain(0, set), 0);
        }
    }

    private static void laterOnesStrike() {
        Check.sentence("terms 1: Later ones strike (road: of the same two TOWNS, either way)");
        YearsForCoin x = Check.told(0, "bank 5;bank 0;ruler 0;ruler 5;towns 1;towns 6;road 5 4 9;road 4 5 1;road 0 1 1;road 1 0 9;road 2 3 4;road 2 3 5;");
        Check.due("bank", x.land(0, 3), 0);
        Check.due("ruler", x.land(0, 4), 5);
        Check.due("towns", x.land(0, 0), 6);
        Check.due("road 4 5", x.land(0, 100 + 6 * 4 + 5), 1);
        Check.due("road 5 4", x.land(0, 100 + 6 * 5 + 4), 1);
        Check.due("road 0 1", x.land(0, 101), 9);
        Check.due("road 1 0", x.land(0, 106), 9);
        Check.due("road 2 3", x.land(0, 115), 5);
        Check.due("other roads stay", x.land(0, 102), 0);
        YearsForCoin y = Check.told(3, "parties 1;parties 4;worth 15 40;worth 15 0;worth 1 0;worth 1 40;worth 2 7;");
        Check.due("parties", y.bargain(0, 0), 4);
        Check.due("worth", y.bargain(0, 15), 0);
        Check.due("worth", y.bargain(0, 1), 40);
        Check.due("other sets stay", y.bargain(0, 2), 7);
        Check.due("other sets stay", y.bargain(0, 3), 0);
    }

    private static void furtherOnes() {
        Check.sentence("terms 1: but SHUT ones, BUYERS, LETTERS, DEEDS, ENTRIES, which are further ones");
        YearsForCoin x = Check.told(0, "towns 6;shut 0;shut 5;shut 5;shut 3;poor 1 2 3 4;poor 1 2 3 4;letter 5 6;letter 5 6;");
        Check.due("shut", x.land(0, 5), 1 + 8 + 32);
        Check.due("buyers", x.land(0, 1), 2);
        Check.due("letters", x.land(0, 2), 2);
        Check.due("deeds", Check.told(1, "doubt;doubt;go 1;go 1;").deed(0, -1, 0), 4);
        Check.due("entries", Check.told(2, "in 1;in 1;key 1;key 1;count 0;").entry(0, -1, 0), 5);
        YearsForCoin all = Check.told(0, "towns 6;shut 0;shut 1;shut 2;shut 3;shut 4;shut 5;");
        Check.due("all shut", all.land(0, 5), 63);
    }

    /** Six towns with all fifteen roads, eight buyers, four letters: the fullest land, with numbers at both ends. */
    private static String fullLand() {
        StringBuilder text = new StringBuilder("towns 6;bank 5;ruler 5;shut 5;");
        for (int t = 0; t < 6; t++) {
            for (int u = 0; u < t; u++) {
                text.append("road " + t + " " + u + " " + road(t, u) + ";");
            }
        }
        for (int b = 0; b < 8; b++) {
            text.append(KINDS[b % 4]);
            for (int row = 1; row < 5; row++) {
                text.append(" " + ofBuyer(row, b));
            }
            text.append(";");
        }
        for (int l = 0; l < 4; l++) {
            text.append("letter " + (l == 3 ? 60 : 1 + l) + " " + (l == 3 ? 60 : l) + ";");
        }
        return text.toString();
    }

    private static int road(int t, int u) {
        return t == u ? 0 : (3 * Math.max(t, u) + Math.min(t, u)) % 9 + 1;
    }

    private static int ofBuyer(int row, int b) {
        int[] due = {b % 4, b % 6, b == 7 ? 99 : 11 * b, b == 7 ? 99 : 13 * b, b == 7 ? 9 : b};
        return due[row];
    }

    private static int dueOfFull(int what) {
        int one = what % 10;
        if (what >= 100 && what < 136) {
            return road((what - 100) / 6, (what - 100) % 6);
        }
        if (what >= 60 && what < 80) {
            return one > 3 ? -1 : one == 3 ? 60 : what < 70 ? 1 + one : one;
        }
        if (what >= 10 && what < 60) {
            return one < 8 ? ofBuyer(what / 10 - 1, one) : -1;
        }
        int[] plain = {6, 8, 4, 5, 5, 32};
        return what >= 0 && what < 6 ? plain[what] : -1;
    }

    private static void landWhat() {
        Check.sentence("6: what 0 .. 5, 10 + b .. 50 + b by tens, 60 + l, 70 + l, 100 + 6 t + u. NONE: there is none such, or for another what");
        YearsForCoin x = Check.told(0, fullLand());
        for (int what = -200; what <= 240; what++) {
            Check.due("land(0, " + what + ")", x.land(0, what), dueOfFull(what));
        }
        for (int what : new int[] {1000, 1010, 65536, 65546, MAX, MAX - 1, MIN, MIN + 1, MIN + 10, MIN + 100}) {
            Check.due("land(0, " + what + ")", x.land(0, what), -1);
        }
        for (int land : NOT_THERE) {
            Check.due("land(" + land + ", 0)", x.land(land, 0), -1);
            Check.due("land(" + land + ", 10)", x.land(land, 10), -1);
        }
    }

    private static void landOfFewer() {
        Check.sentence("6: NONE: there is none such (of any)");
        for (int towns = 1; towns <= 6; towns++) {
            YearsForCoin x = Check.told(0, "towns " + towns + ";");
            for (int t = 0; t < 6; t++) {
                for (int u = 0; u < 6; u++) {
                    Check.due("road " + t + " " + u + " of " + towns, x.land(0, 100 + 6 * t + u), t < towns && u < towns ? 0 : -1);
                }
            }
        }
        for (int many = 0; many <= 8; many++) {
            YearsForCoin x = Check.told(0, "poor 0 0 0 0;".repeat(many));
            for (int what = 10; what < 60; what++) {
                Check.due("buyer " + what + " of " + many, x.land(0, what), what % 10 < many ? 0 : -1);
            }
        }
        for (int many = 0; many <= 4; many++) {
            YearsForCoin x = Check.told(0, "letter 1 1;".repeat(many));
            for (int what = 60; what < 80; what++) {
                Check.due("letter " + what + " of " + many, x.land(0, what), what % 10 < many ? 1 : -1);
            }
        }
        // A land in the place of a fuller one has nothing of it.
        YearsForCoin x = Check.told(0, fullLand());
        Check.due("anew", x.text(0, 0), 0);
        for (int what = 0; what < 136; what++) {
            boolean road = what >= 100 && (what - 100) / 6 < 3 && (what - 100) % 6 < 3;
            Check.due("land(0, " + what + ")", x.land(0, what), what == 0 ? 3 : what < 6 || road ? 0 : -1);
        }
    }

    private static void deedWhat() {
        Check.sentence("7: How many DEEDS (k NONE, what 0); of DEED k, what 0, 1, 2 (NONE without). -2: there is none such, or for another what");
        StringBuilder text = new StringBuilder();
        int[][] due = new int[40][];
        for (int k = 0; k < 40; k++) {
            int[][] kinds = {{0, k % 8, k % 4}, {1, k % 8, 60 - k}, {2, k % 6, -1}, {3, k % 6, -1}, {4, k % 6, -1}, {5, -1, -1}, {6, -1, -1}};
            String[] words = {"sell ", "sin ", "go ", "shut ", "open ", "doubt", "jubilee"};
            due[k] = kinds[k % 7];
            text.append(words[k % 7] + (due[k][1] < 0 ? "" : "" + due[k][1]) + (due[k][2] < 0 ? "" : " " + due[k][2]) + ";");
        }
        YearsForCoin x = Check.told(1, text.toString());
        Check.due("deeds", x.deed(0, -1, 0), 40);
        for (int k = 0; k < 40; k++) {
            for (int what = -2; what < 5; what++) {
                Check.due("deed " + k + " " + what, x.deed(0, k, what), what >= 0 && what < 3 ? due[k][what] : -2);
            }
        }
        for (int k : new int[] {40, 41, -2, -3, MAX, MIN}) {
            for (int what = 0; what < 3; what++) {
                Check.due("deed " + k + " " + what, x.deed(0, k, what), -2);
            }
        }
        for (int what : new int[] {1, 2, 3, -1, MAX, MIN}) {
            Check.due("how many of what", x.deed(0, -1, what), -2);
        }
        Check.due("what", x.deed(0, 0, MAX), -2);
        Check.due("what", x.deed(0, 0, MIN), -2);
        for (int season : NOT_THERE) {
            Check.due("no season " + season, x.deed(season, -1, 0), -2);
            Check.due("no season " + season, x.deed(season, 0, 0), -2);
        }
        YearsForCoin one = Check.told(1, "doubt;");
        Check.due("the last", one.deed(0, 0, 0), 5);
        Check.due("one beyond", one.deed(0, 1, 0), -2);
        YearsForCoin none = Check.told(1, "");
        Check.due("how many", none.deed(0, -1, 0), 0);
        Check.due("none", none.deed(0, 0, 0), -2);
    }

    private static void entryWhat() {
        Check.sentence("16: How many ENTRIES (k NONE, what 0); of ENTRY k, what 0 .. 3. -2: there is none such, or for another what");
        YearsForCoin x = Check.told(2, "in 99;out 0;key 5;count 0;".repeat(5));
        int[][] due = {{0, 99, -1, -1}, {1, 0, -1, -1}, {3, 5, -1, -1}, {2, 0, 99, 0}};
        Check.due("entries", x.entry(0, -1, 0), 20);
        for (int k = 0; k < 20; k++) {
            for (int what = -2; what < 6; what++) {
                Check.due("entry " + k + " " + what, x.entry(0, k, what), what >= 0 && what < 4 ? due[k % 4][what] : -2);
            }
            Check.due("what", x.entry(0, k, MAX), -2);
            Check.due("what", x.entry(0, k, MIN), -2);
        }
        for (int k : new int[] {20, 21, -2, -3, MAX, MIN}) {
            for (int what = 0; what < 4; what++) {
                Check.due("entry " + k + " " + what, x.entry(0, k, what), -2);
            }
        }
        for (int what : new int[] {1, 2, 3, 4, -1, MAX, MIN}) {
            Check.due("how many of what", x.entry(0, -1, what), -2);
        }
        for (int ledger : NOT_THERE) {
            Check.due("no ledger " + ledger, x.entry(ledger, -1, 0), -2);
            Check.due("no ledger " + ledger, x.entry(ledger, 0, 0), -2);
        }
        YearsForCoin none = Check.told(2, "");
        Check.due("how many", none.entry(0, -1, 0), 0);
        Check.due("none", none.entry(0, 0, 0), -2);
    }

    private static void bargainWhat() {
        Check.sentence("18: what 0: PARTIES, 1 .. 15: what a set is WORTH. NONE: there is none such (of either), or for another what");
        for (int parties = 1; parties <= 4; parties++) {
            StringBuilder text = new StringBuilder("parties " + parties + ";");
            for (int set = 1; set < 1 << parties; set++) {
                text.append("worth " + set + " " + (set == 1 ? 40 : set) + ";");
            }
            YearsForCoin x = Check.told(3, text.toString());
            Check.due("parties", x.bargain(0, 0), parties);
            for (int set = 1; set < 40; set++) {
                Check.due("set " + set + " of " + parties, x.bargain(0, set), set >= 1 << parties ? -1 : set == 1 ? 40 : set);
            }
            for (int what : new int[] {-1, -2, -16, MAX, MIN}) {
                Check.due("bargain(0, " + what + ")", x.bargain(0, what), -1);
            }
            for (int bargain : NOT_THERE) {
                Check.due("no bargain " + bargain, x.bargain(bargain, 0), -1);
                Check.due("no bargain " + bargain, x.bargain(bargain, 1), -1);
            }
        }
    }
}
