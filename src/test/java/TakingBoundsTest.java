/** The edges of who takes what at which price: terms 2, 3, 5, promises 10, 11, 23, 24, 28, sentence by sentence. */
public final class TakingBoundsTest {
    private static final int MAX = Integer.MAX_VALUE;
    private static final int MIN = Integer.MIN_VALUE;
    private static final int[] NOT_THERE = {-1, -2, 1, 2, 3, MAX, MIN};
    private static final String[] KINDS = {"poor", "knight", "widow", "doubter"};

    public static void main(String[] args) {
        notAboveHisMeans();
        owesAnything();
        yearsOrWhatHeOwes();
        fearTimesYears();
        leastAndGreatestFear();
        otherOffers();
        pricesUpToTheLast();
        leastOfSeveralPrices();
        pricedNumbers();
        pricedOfNobody();
        everyBuyerOfAFullLand();
        ranked();
        soldAtEveryPrice();
        otherNumbersOfSold();
        untilTheLastDoubt();
        untilNone();
        noSuchUntil();
        Check.exit("TakingBoundsTest");
    }

    /** The highest price at which he takes it is taken, one more is not; highest -1: none is taken. */
    private static void highest(String buyer, int years, int highest) {
        YearsForCoin x = Check.told(0, buyer);
        for (int price = 0; price <= 99; price++) {
            Check.due(buyer + " takes " + years + " years at " + price, x.takes(0, 0, years, price), price <= highest ? 1 : 0);
            Check.due(buyer + " is sold " + years + " years at " + price, x.sold(0, years, price), price <= highest ? 1 : 0);
        }
    }

    private static void notAboveHisMeans() {
        Check.sentence("terms 2: if that is not above his MEANS");
        for (String kind : KINDS) {
            for (int means : new int[] {0, 1, 2, 50, 98, 99}) {
                highest(kind + " 0 99 " + means + " 9;", 60, means);
            }
        }
    }

    private static void owesAnything() {
        Check.sentence("terms 2: POOR: he OWES anything; KNIGHT .. (he buys ahead, too)");
        int[] owesOne = {9, 99, 18, 4};
        for (int kind = 0; kind < 4; kind++) {
            highest(KINDS[kind] + " 0 0 99 9;", 60, kind == 1 ? 99 : -1);
            highest(KINDS[kind] + " 0 1 99 9;", 60, owesOne[kind]);
            highest(KINDS[kind] + " 0 0 0 9;", 1, kind == 1 ? 0 : -1);
            highest(KINDS[kind] + " 0 1 0 0;", 1, 0);
        }
    }

    private static void yearsOrWhatHeOwes() {
        Check.sentence("terms 2: the years he is let off (YEARS, or what he OWES, if less)");
        for (int years = 1; years <= 60; years++) {
            int off = Math.min(years, 10);
            highest("poor 0 10 99 3;", years, 3 * off);
            highest("widow 0 10 99 3;", years, 6 * off);
            highest("doubter 0 10 99 3;", years, 3 * off / 2);
            highest("knight 0 10 99 3;", years, Math.min(99, 3 * years));
        }
    }

    private static void fearTimesYears() {
        Check.sentence("terms 2: PRICE is not above FEAR times ..; WIDOW: twice FEAR; DOUBTER: twice PRICE");
        for (int fear = 0; fear <= 9; fear++) {
            for (int years : new int[] {1, 2, 3, 11}) {
                highest("poor 0 99 99 " + fear + ";", years, fear * years);
                highest("knight 0 0 99 " + fear + ";", years, fear * years);
                highest("widow 0 99 99 " + fear + ";", years, Math.min(99, 2 * fear * years));
                highest("doubter 0 99 99 " + fear + ";", years, fear * years / 2);
            }
        }
    }

    private static void leastAndGreatestFear() {
        Check.sentence("terms 1: FEAR, 0 .. 9");
        for (String kind : KINDS) {
            highest(kind + " 0 99 99 0;", 60, 0);
            highest(kind + " 0 99 99 9;", 60, 99);
        }
    }

    private static void otherOffers() {
        Check.sentence("10: a LETTER of years, 1 .. 60, at a price, 0 .. 99. NONE: other numbers, or there is none such (of either)");
        YearsForCoin x = Check.told(0, "knight 0 99 99 9;knight 0 99 99 9;");
        for (int years = -5; years <= 70; years++) {
            for (int price = -3; price <= 105; price++) {
                boolean may = years >= 1 && years <= 60 && price >= 0 && price <= 99;
                int due = !may ? -1 : price <= 9 * years ? 1 : 0;
                Check.due("takes " + years + " " + price, x.takes(0, 1, years, price), due);
            }
        }
        for (int odd : new int[] {MAX, MIN, 65537, 256}) {
            Check.due("years " + odd, x.takes(0, 0, odd, 0), -1);
            Check.due("price " + odd, x.takes(0, 0, 1, odd), -1);
        }
        for (int odd : new int[] {-1, 2, 8, MAX, MIN}) {
            Check.due("buyer " + odd, x.takes(0, odd, 1, 0), -1);
        }
        for (int odd : NOT_THERE) {
            Check.due("land " + odd, x.takes(odd, 0, 1, 0), -1);
        }
        Check.due("nobody is there", Check.told(0, "").takes(0, 0, 1, 0), -1);
        YearsForCoin full = Check.told(0, "knight 0 99 99 9;".repeat(8));
        Check.due("the eighth", full.takes(0, 7, 1, 9), 1);
        Check.due("no ninth", full.takes(0, 8, 1, 9), -1);
    }

    private static void priced(YearsForCoin x, int years, int kind, int price, int coins) {
        Check.due("priced " + years + " of " + kind, x.priced(0, years, kind, false), price);
        Check.due("coins of " + years + " of " + kind, x.priced(0, years, kind, true), coins);
    }

    private static void pricesUpToTheLast() {
        Check.sentence("terms 3: the PRICE, 0 .. 99, at which most comes in");
        for (int means = 0; means <= 99; means++) {
            YearsForCoin x = Check.told(0, "knight 0 0 " + means + " 9;");
            priced(x, 60, 1, means, means);
            priced(x, 60, -1, means, means);
        }
        // FEAR alone would have more than 99 paid.
        priced(Check.told(0, "widow 0 99 99 9;"), 60, 2, 99, 99);
        priced(Check.told(0, "knight 0 0 99 9;"), 11, 1, 99, 99);
        priced(Check.told(0, "knight 0 0 99 9;"), 10, 1, 90, 90);
    }

    private static void leastOfSeveralPrices() {
        Check.sentence("terms 3: of several the least");
        // Both together pay 98 at 49; what the one alone pays is as much, one more, one less.
        priced(Check.told(0, "knight 0 0 98 9;knight 0 0 49 9;"), 60, -1, 49, 98);
        priced(Check.told(0, "knight 0 0 99 9;knight 0 0 49 9;"), 60, -1, 99, 99);
        priced(Check.told(0, "knight 0 0 97 9;knight 0 0 49 9;"), 60, -1, 49, 98);
        priced(Check.told(0, "knight 0 0 60 9;knight 0 0 30 9;knight 0 0 20 9;knight 0 0 15 9;"), 60, 1, 15, 60);
        // At every price nothing comes in.
        priced(Check.told(0, "poor 0 9 0 9;"), 60, 0, 0, 0);
        priced(Check.told(0, "poor 0 9 9 0;"), 60, -1, 0, 0);
    }

    private static void pricedNumbers() {
        Check.sentence("11: PRICED of years, 1 .. 60, a KIND, 0 .. 3 (NONE: all). NONE: other numbers, or there is none such");
        YearsForCoin x = Check.told(0, "poor 0 99 1 9;knight 0 0 2 9;widow 0 99 3 9;doubter 0 99 4 9;");
        for (int years = -3; years <= 64; years++) {
            for (int kind = -4; kind <= 7; kind++) {
                boolean may = years >= 1 && years <= 60 && kind >= -1 && kind <= 3;
                // All four pay 1, three 2, two 3, one 4: 6 comes in at 2 first.
                int due = kind == -1 ? 6 : kind + 1;
                Check.due("coins " + years + " " + kind, x.priced(0, years, kind, true), may ? due : -1);
                Check.due("price " + years + " " + kind, x.priced(0, years, kind, false), !may ? -1 : kind == -1 ? 2 : due);
            }
        }
        for (int odd : new int[] {MAX, MIN}) {
            Check.due("years " + odd, x.priced(0, odd, 0, true), -1);
            Check.due("kind " + odd, x.priced(0, 1, odd, false), -1);
        }
        for (int odd : NOT_THERE) {
            Check.due("land " + odd, x.priced(odd, 1, 0, true), -1);
            Check.due("land " + odd, x.priced(odd, 1, -1, false), -1);
        }
    }

    private static void pricedOfNobody() {
        Check.sentence("terms 3: if all BUYERS of that KIND are offered a LETTER");
        YearsForCoin none = Check.told(0, "");
        for (int kind = -1; kind < 4; kind++) {
            priced(none, 1, kind, 0, 0);
            priced(none, 60, kind, 0, 0);
        }
        for (int of = 0; of < 4; of++) {
            YearsForCoin x = Check.told(0, KINDS[of] + " 0 99 9 9;");
            for (int kind = -1; kind < 4; kind++) {
                boolean asked = kind == -1 || kind == of;
                priced(x, 60, kind, asked ? 9 : 0, asked ? 9 : 0);
            }
        }
    }

    private static void everyBuyerOfAFullLand() {
        Check.sentence("terms 3: all BUYERS .. each one; terms 1: BUYERS, at most 8");
        for (int many = 1; many <= 8; many++) {
            YearsForCoin x = Check.told(0, "widow 0 99 99 9;".repeat(many));
            priced(x, 60, 2, 99, 99 * many);
            priced(x, 60, -1, 99, 99 * many);
            Check.due("ranked of " + many, x.ranked(0, 60), 99 * many);
            Check.due("sold to " + many, x.sold(0, 60, 99), many);
        }
    }

    private static void ranked() {
        Check.sentence("23: RANKED of years, 1 .. 60. NONE: other years, or there is none such; terms 5: each KIND has its own PRICE");
        YearsForCoin x = Check.told(0, "poor 0 99 99 1;knight 0 0 99 1;widow 0 99 99 1;doubter 0 99 99 2;");
        for (int years = -3; years <= 64; years++) {
            boolean may = years >= 1 && years <= 60;
            Check.due("ranked " + years, x.ranked(0, years), may ? 3 * years + Math.min(99, 2 * years) : -1);
        }
        Check.due("ranked", x.ranked(0, MAX), -1);
        Check.due("ranked", x.ranked(0, MIN), -1);
        for (int odd : NOT_THERE) {
            Check.due("land " + odd, x.ranked(odd, 1), -1);
        }
        Check.due("nobody", Check.told(0, "").ranked(0, 1), 0);
        Check.due("nobody", Check.told(0, "").ranked(0, 60), 0);
    }

    private static void soldAtEveryPrice() {
        Check.sentence("terms 5: SOLD of y years, a price: how many BUYERS take it, each one");
        // Each pays ten more than the one ahead of him.
        StringBuilder land = new StringBuilder();
        for (int b = 0; b < 8; b++) {
            land.append("knight 0 0 " + 10 * (b + 1) + " 9;");
        }
        YearsForCoin x = Check.told(0, land.toString());
        for (int price = 0; price <= 99; price++) {
            int due = price <= 10 ? 8 : price > 80 ? 0 : 8 - (price - 1) / 10;
            Check.due("sold at " + price, x.sold(0, 60, price), due);
        }
    }

    private static void otherNumbersOfSold() {
        Check.sentence("24: SOLD of years, 1 .. 60, a price, 0 .. 99. NONE: other numbers, or there is none such");
        YearsForCoin x = Check.told(0, "knight 0 0 99 9;poor 0 0 99 9;");
        for (int years : new int[] {MIN, -1, 0, 1, 2, 59, 60, 61, MAX}) {
            for (int price : new int[] {MIN, -1, 0, 1, 98, 99, 100, MAX}) {
                boolean may = years >= 1 && years <= 60 && price >= 0 && price <= 99;
                Check.due("sold " + years + " " + price, x.sold(0, years, price), may ? price <= 9 * years ? 1 : 0 : -1);
            }
        }
        for (int odd : NOT_THERE) {
            Check.due("land " + odd, x.sold(odd, 1, 0), -1);
        }
        Check.due("nobody", Check.told(0, "").sold(0, 1, 0), 0);
        Check.due("nobody", Check.told(0, "").sold(0, 60, 99), 0);
    }

    private static void untilTheLastDoubt() {
        Check.sentence("terms 5: UNTIL: the fewest doubts, 0 .. 9, behind which he does not take it at its PRICE");
        for (int fear = 0; fear <= 9; fear++) {
            for (int needs = 1; needs <= 10; needs++) {
                // He takes it with so much FEAR as is needed, or more.
                int due = Math.max(0, fear - needs + 1);
                String letter = "letter 6 " + 6 * needs + ";";
                Check.due("poor " + fear + " " + needs, Check.told(0, "poor 0 6 99 " + fear + ";" + letter).until(0, 0, 0), due);
                Check.due("knight " + fear + " " + needs, Check.told(0, "knight 0 0 99 " + fear + ";" + letter).until(0, 0, 0), due);
                String half = "letter 6 " + 3 * needs + ";";
                Check.due("doubter " + fear + " " + needs, Check.told(0, "doubter 0 6 99 " + fear + ";" + half).until(0, 0, 0), due);
                Check.due("widow " + fear + " " + needs, Check.told(0, "widow 0 3 99 " + fear + ";" + letter).until(0, 0, 0), due);
            }
        }
        Check.sentence("terms 5: UNTIL .. at its PRICE; terms 2: if that is not above his MEANS");
        Check.due("at his means", Check.told(0, "knight 0 0 60 1;letter 60 60;").until(0, 0, 0), 1);
        Check.due("above his means", Check.told(0, "knight 0 0 59 9;letter 60 60;").until(0, 0, 0), 0);
    }

    private static void untilNone() {
        Check.sentence("28: UNTIL. NONE: by none");
        for (int fear = 0; fear <= 9; fear++) {
            for (String kind : KINDS) {
                Check.due(kind + " for nothing", Check.told(0, kind + " 0 1 0 " + fear + ";letter 1 0;").until(0, 0, 0), -1);
                int due = kind.equals("knight") ? -1 : 0;
                Check.due(kind + " owing nothing", Check.told(0, kind + " 0 0 99 " + fear + ";letter 1 0;").until(0, 0, 0), due);
            }
        }
    }

    private static void noSuchUntil() {
        Check.sentence("28: NONE: .. or there is none such (of any)");
        YearsForCoin x = Check.told(0, "poor 0 9 9 9;".repeat(8) + "letter 1 9;".repeat(4));
        for (int buyer : new int[] {MIN, -2, -1, 0, 7, 8, MAX}) {
            for (int letter : new int[] {MIN, -2, -1, 0, 3, 4, MAX}) {
                boolean there = buyer >= 0 && buyer < 8 && letter >= 0 && letter < 4;
                Check.due("until " + buyer + " " + letter, x.until(0, buyer, letter), there ? 1 : -1);
            }
        }
        for (int odd : NOT_THERE) {
            Check.due("land " + odd, x.until(odd, 0, 0), -1);
        }
        Check.due("no letter", Check.told(0, "poor 0 0 0 0;").until(0, 0, 0), -1);
        Check.due("no buyer", Check.told(0, "letter 1 1;").until(0, 0, 0), -1);
    }
}
